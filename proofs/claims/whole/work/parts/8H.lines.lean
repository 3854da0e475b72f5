/-! tales, needs, sights, pairs, draws -/
theorem ix86a (G : Nat) : ((86 : Int32) + ((2 : Int32) * nI G)) = nI (86 + 2 * G) := by
  rw [show (86 : Int32) = nI 86 from rfl, show (2 : Int32) = nI 2 from rfl, mulI, addI]
theorem ix86b (G : Nat) : nI (86 + 2 * G) + 1 = nI (86 + 2 * G + 1) := sI _
theorem ta_lock {n L p G D T N S : Nat} (hn : 1000 ≤ n) {tp mt : Nat → Int32} (ht : TAPE L tp mt) {H : Nat → Nat → Int32} {fr o om lt f13 f14 : Nat → Int32} {c : Int64} {Y : Nat → Int64} (hl : LIVE o om) (hT : TOKR L p o c om lt) (h10 : o 10 = 1) (h11 : o 11 = nI (G + T + N)) (hM : NAM G T N Y f13 f14 fr) (hH : RH true G D T N S H fr) (hK : T < 4) :
    ∃ o' c' Y' a13 a14 h5 h6 h7 om' lt' fr', fX5_readTale n o c tp Y f13 f14 (H 5) (H 13) (H 14) = some (o', c', Y', a13, a14, h5, h6, h7) ∧ fX10_taleLine n om mt lt fr = some (om', lt', fr') ∧ RDS L p (va_up (va_up (va_up H 5 h5) 13 h6) 14 h7) fr' o' c' om' lt' Y' a13 a14 ∧ FO2 o o' ∧ FM om om' := by
  obtain ⟨⟨c1, c2, c3, c4, c5, c6, c7, c8, c9, c10, c11, c12, c13, c14, c15, c16⟩, hE, hg, hp, hw, htl, hnd, hsi, -⟩ := hH
  obtain ⟨o1, y1, Y', a13, a14, om1, lt1, fr1, e1, e2, e3, e4, e5, -, e7⟩ := newname_lock (s := 7 + T) hn ht hM h11 (by omega) (by omega) 4 (nI T) (Or.inl ⟨hl, hT⟩)
  have kc : ¬ ((nI T : Int32) < 0 ∨ 4 ≤ (nI T : Int32).toNatClampNeg) := ckI hK (by omega)
  obtain ⟨v2, w2, o3, y3, om3, lt3, a1, a2, a3, a4, a5, a6⟩ := am18 hn ht e3
  obtain ⟨v3, w3, o4, y4, om4, lt4, b1, b2, b3, b4, b5, b6⟩ := am19 hn ht a3
  have sl : (7 : Int32) + nI T = nI (7 + T) := by rw [show (7 : Int32) = nI 7 from rfl, addI]
  have cl : fX5_readTale n o c tp Y f13 f14 (H 5) (H 13) (H 14) = some (o4, y4, Y', a13, a14, upd (H 5) 13 (nI (T + 1)), upd (H 13) T v2, upd (H 14) T v3) := by
    rw [fX5_readTale, c10, e1, ob5_ss, a1, ob3_ss, if_neg kc, b1, ob3_ss, if_neg kc, clI (by omega), sI]
  have rf : fX10_taleLine n om mt lt fr = some (om4, lt4, if om4 13 = 0 then upd (upd (upd fr1 (86 + 2 * T) w2) (86 + 2 * T + 1) w3) 6 ((upd (upd fr1 (86 + 2 * T) w2) (86 + 2 * T + 1) w3) 6 + 1) else upd (upd fr1 (86 + 2 * T) w2) (86 + 2 * T + 1) w3) := by
    rw [fX10_taleLine, if_pos hl.1, c11, sl, e2, ob3_ss, a2, ob3_ss, ix86a, if_neg (ckI (by omega) (by omega)), b2, ob3_ss, ix86b, if_neg (ckI (by omega) (by omega)), clI (by omega), clI (by omega)]
    by_cases q : om4 13 = 0
    · rw [if_pos q, if_pos q]
    · rw [if_neg q, if_neg q]
  have f := a4.trans b4
  refine ⟨_, _, _, _, _, _, _, _, _, _, _, cl, rf, ?_, fun k h2 h3 h5 h6 h7 h8 h10 h11 => (f k h2 h3 h5 h6 h7 h8).trans (e4 k h11 h2 h3 h5 h6 h7 h8), (e5.trans a5).trans b5⟩
  by_cases q : om4 13 = 0
  · rw [if_pos q]
    have q3 := b6 q
    have q2 := a6 q3.1
    obtain ⟨kk3, k31, k32, k33⟩ := q3.2.2
    obtain ⟨kk2, k21, k22, k23⟩ := q2.2.2
    obtain ⟨-, m1, z, P, m2, m3, m4, m5, m6, m7, m8, m9, m10, m11⟩ := e7 q2.1
    have F2 : ∀ i, 122 ≤ i → upd (upd (upd fr1 (86 + 2 * T) w2) (86 + 2 * T + 1) w3) 6 ((upd (upd fr1 (86 + 2 * T) w2) (86 + 2 * T + 1) w3) 6 + 1) i = fr1 i := fun i hi => by
      rw [upd_n _ _ (by omega), upd_n _ _ (by omega), upd_n _ _ (by omega)]
    have F : ∀ i, i < 122 → i ≠ 6 → (i < 86 + 2 * T ∨ 86 + 2 * T + 2 ≤ i) → upd (upd (upd fr1 (86 + 2 * T) w2) (86 + 2 * T + 1) w3) 6 ((upd (upd fr1 (86 + 2 * T) w2) (86 + 2 * T + 1) w3) 6 + 1) i = fr i := fun i hi h3 h9 => by
      rw [upd_n _ _ (by omega), upd_n _ _ (by omega), upd_n _ _ (by omega)]
      exact m11 i (by omega) (by omega)
    have F3 : upd (upd (upd fr1 (86 + 2 * T) w2) (86 + 2 * T + 1) w3) 6 ((upd (upd fr1 (86 + 2 * T) w2) (86 + 2 * T + 1) w3) 6 + 1) 6 = nI (T + 1) := by
      rw [upd_s, upd_n _ _ (by omega), upd_n _ _ (by omega), m11 6 (by omega) (by omega), c11, sI]
    have Fb : upd (upd (upd fr1 (86 + 2 * T) w2) (86 + 2 * T + 1) w3) 6 ((upd (upd fr1 (86 + 2 * T) w2) (86 + 2 * T + 1) w3) 6 + 1) (86 + 2 * T) = w2 := by
      rw [upd_n _ _ (by omega), upd_n _ _ (by omega), upd_s]
    have Fc : upd (upd (upd fr1 (86 + 2 * T) w2) (86 + 2 * T + 1) w3) 6 ((upd (upd fr1 (86 + 2 * T) w2) (86 + 2 * T + 1) w3) 6 + 1) (86 + 2 * T + 1) = w3 := by
      rw [upd_n _ _ (by omega), upd_s]
    generalize upd (upd (upd fr1 (86 + 2 * T) w2) (86 + 2 * T + 1) w3) 6 ((upd (upd fr1 (86 + 2 * T) w2) (86 + 2 * T + 1) w3) 6 + 1) = fr' at F F2 F3 Fb Fc ⊢
    have es : slL (7 + T) = 4 := by rw [slL, if_neg (by omega), if_pos (by omega)]
    have en : slN (7 + T) = nI T := by rw [slN, if_neg (by omega), if_pos (by omega), Nat.add_sub_cancel_left]
    have hN := hM.add (G' := G) (T' := T + 1) (N' := N) (s := 7 + T) (fr' := fr') (by omega) (by omega) (by omega) (by omega) (by omega) (fun t h => by unfold usd; omega) (by unfold usd; omega) m2 m3 ((F2 _ (by omega)).trans m4) (m5.cg (fun i _ => F2 _ (by omega))) ((PKf.cg (fun i _ => F2 _ (by omega))).trans m6) m7 (fun i h1 h2 h3 h4 => (F2 i h1).trans (m11 i h3 h4))
    rw [es, en, ← m8, ← m9, ← m10] at hN
    refine Or.inl ⟨(b3.l q).1, (b3.l q).2, true, G, D, T + 1, N, S, f.a10.trans ((e4 10 (by decide) (by decide) (by decide) (by decide) (by decide) (by decide) (by decide)).trans h10), f.a11.trans (m1.trans (congrArg nI (by omega))), hN, ⟨c1, c2, by omega, c4, c5, c6, (F 3 (by omega) (by omega) (by omega)).trans c7, c8, (F 5 (by omega) (by omega) (by omega)).trans c9, rfl, F3, c12, (F 7 (by omega) (by omega) (by omega)).trans c13, c14, (F 8 (by omega) (by omega) (by omega)).trans c15, c16.trans (F 4 (by omega) (by omega) (by omega)).symm⟩, hE.cg rfl rfl rfl (fun i hi => F i (by omega) (by omega) (by omega)), hg.cg (fun _ _ => ⟨rfl, rfl, rfl⟩) (fun g hg j hj => F _ (by omega) (by omega) (by omega)), hp.cg c1 (fun _ _ => rfl) (fun g hg => F _ (by omega) (by omega) (by omega)), hw.cg (fun _ _ => ⟨rfl, rfl, rfl⟩) (fun i h1 h2 => F i (by omega) (by omega) (by omega)), htl.add hK (fun t h => ⟨upd_n _ _ (by omega), upd_n _ _ (by omega)⟩) (fun i h1 h2 => F i (by omega) (by omega) (by omega)) ⟨(upd_s _ _ _).trans (q2.2.1.trans Fb.symm), (upd_s _ _ _).trans (q3.2.1.trans Fc.symm), ⟨kk2, k21, k22, Fb.trans (q2.2.1.symm.trans k23)⟩, ⟨kk3, k32, Fc.trans (q3.2.1.symm.trans k33)⟩⟩, hnd.cg c4 (fun _ _ => ⟨rfl, rfl⟩) (fun i h1 h2 => F i (by omega) (by omega) (by omega)), hsi.cg c5 (fun _ _ => ⟨rfl, rfl, rfl⟩) (fun i h1 h2 => F i (by omega) (by omega) (by omega)), fun z => absurd z (by decide)⟩
  · exact Or.inr (b3.d q)
theorem ix94a (G : Nat) : ((94 : Int32) + ((2 : Int32) * nI G)) = nI (94 + 2 * G) := by
  rw [show (94 : Int32) = nI 94 from rfl, show (2 : Int32) = nI 2 from rfl, mulI, addI]
theorem ix94b (G : Nat) : nI (94 + 2 * G) + 1 = nI (94 + 2 * G + 1) := sI _
theorem ne_lock {n L p G D T N S : Nat} (hn : 1000 ≤ n) {tp mt : Nat → Int32} (ht : TAPE L tp mt) {H : Nat → Nat → Int32} {fr o om lt f13 f14 : Nat → Int32} {c : Int64} {Y : Nat → Int64} (hl : LIVE o om) (hT : TOKR L p o c om lt) (h10 : o 10 = 1) (h11 : o 11 = nI (G + T + N)) (hM : NAM G T N Y f13 f14 fr) (hH : RH true G D T N S H fr) (hK : N < 5) :
    ∃ o' c' Y' a13 a14 h5 h6 h7 om' lt' fr', fX5_readNeed n o c tp Y f13 f14 (H 15) (H 16) (H 17) = some (o', c', Y', a13, a14, h5, h6, h7) ∧ fX10_needLine n om mt lt fr = some (om', lt', fr') ∧ RDS L p (va_up (va_up (va_up H 15 h5) 16 h6) 17 h7) fr' o' c' om' lt' Y' a13 a14 ∧ FO2 o o' ∧ FM om om' := by
  obtain ⟨⟨c1, c2, c3, c4, c5, c6, c7, c8, c9, c10, c11, c12, c13, c14, c15, c16⟩, hE, hg, hp, hw, htl, hnd, hsi, -⟩ := hH
  obtain ⟨o1, y1, Y', a13, a14, om1, lt1, fr1, e1, e2, e3, e4, e5, -, e7⟩ := newname_lock (s := 11 + N) hn ht hM h11 (by omega) (by omega) 5 (nI N) (Or.inl ⟨hl, hT⟩)
  have kc : ¬ ((nI N : Int32) < 0 ∨ 5 ≤ (nI N : Int32).toNatClampNeg) := ckI hK (by omega)
  obtain ⟨v2, w2, o3, y3, om3, lt3, a1, a2, a3, a4, a5, a6⟩ := am17b hn ht e3
  obtain ⟨v3, w3, o4, y4, om4, lt4, b1, b2, b3, b4, b5, b6⟩ := am20 hn ht a3
  have sl : (11 : Int32) + nI N = nI (11 + N) := by rw [show (11 : Int32) = nI 11 from rfl, addI]
  have cl : fX5_readNeed n o c tp Y f13 f14 (H 15) (H 16) (H 17) = some (o4, y4, Y', a13, a14, upd (H 15) 0 (nI (N + 1)), upd (H 16) N v2, upd (H 17) N v3) := by
    rw [fX5_readNeed, c12, e1, ob5_ss, a1, ob3_ss, if_neg kc, b1, ob3_ss, if_neg kc, clI (by omega), sI]
  have rf : fX10_needLine n om mt lt fr = some (om4, lt4, if om4 13 = 0 then upd (upd (upd fr1 (94 + 2 * N) w2) (94 + 2 * N + 1) w3) 7 ((upd (upd fr1 (94 + 2 * N) w2) (94 + 2 * N + 1) w3) 7 + 1) else upd (upd fr1 (94 + 2 * N) w2) (94 + 2 * N + 1) w3) := by
    rw [fX10_needLine, if_pos hl.1, c13, sl, e2, ob3_ss, a2, ob3_ss, ix94a, if_neg (ckI (by omega) (by omega)), b2, ob3_ss, ix94b, if_neg (ckI (by omega) (by omega)), clI (by omega), clI (by omega)]
    by_cases q : om4 13 = 0
    · rw [if_pos q, if_pos q]
    · rw [if_neg q, if_neg q]
  have f := a4.trans b4
  refine ⟨_, _, _, _, _, _, _, _, _, _, _, cl, rf, ?_, fun k h2 h3 h5 h6 h7 h8 h10 h11 => (f k h2 h3 h5 h6 h7 h8).trans (e4 k h11 h2 h3 h5 h6 h7 h8), (e5.trans a5).trans b5⟩
  by_cases q : om4 13 = 0
  · rw [if_pos q]
    have q3 := b6 q
    have q2 := a6 q3.1
    obtain ⟨kk3, k31, k32, k33⟩ := q3.2.2
    obtain ⟨kk2, k21, k22, k23⟩ := q2.2.2
    obtain ⟨-, m1, z, P, m2, m3, m4, m5, m6, m7, m8, m9, m10, m11⟩ := e7 q2.1
    have F2 : ∀ i, 122 ≤ i → upd (upd (upd fr1 (94 + 2 * N) w2) (94 + 2 * N + 1) w3) 7 ((upd (upd fr1 (94 + 2 * N) w2) (94 + 2 * N + 1) w3) 7 + 1) i = fr1 i := fun i hi => by
      rw [upd_n _ _ (by omega), upd_n _ _ (by omega), upd_n _ _ (by omega)]
    have F : ∀ i, i < 122 → i ≠ 7 → (i < 94 + 2 * N ∨ 94 + 2 * N + 2 ≤ i) → upd (upd (upd fr1 (94 + 2 * N) w2) (94 + 2 * N + 1) w3) 7 ((upd (upd fr1 (94 + 2 * N) w2) (94 + 2 * N + 1) w3) 7 + 1) i = fr i := fun i hi h3 h9 => by
      rw [upd_n _ _ (by omega), upd_n _ _ (by omega), upd_n _ _ (by omega)]
      exact m11 i (by omega) (by omega)
    have F3 : upd (upd (upd fr1 (94 + 2 * N) w2) (94 + 2 * N + 1) w3) 7 ((upd (upd fr1 (94 + 2 * N) w2) (94 + 2 * N + 1) w3) 7 + 1) 7 = nI (N + 1) := by
      rw [upd_s, upd_n _ _ (by omega), upd_n _ _ (by omega), m11 7 (by omega) (by omega), c13, sI]
    have Fb : upd (upd (upd fr1 (94 + 2 * N) w2) (94 + 2 * N + 1) w3) 7 ((upd (upd fr1 (94 + 2 * N) w2) (94 + 2 * N + 1) w3) 7 + 1) (94 + 2 * N) = w2 := by
      rw [upd_n _ _ (by omega), upd_n _ _ (by omega), upd_s]
    have Fc : upd (upd (upd fr1 (94 + 2 * N) w2) (94 + 2 * N + 1) w3) 7 ((upd (upd fr1 (94 + 2 * N) w2) (94 + 2 * N + 1) w3) 7 + 1) (94 + 2 * N + 1) = w3 := by
      rw [upd_n _ _ (by omega), upd_s]
    generalize upd (upd (upd fr1 (94 + 2 * N) w2) (94 + 2 * N + 1) w3) 7 ((upd (upd fr1 (94 + 2 * N) w2) (94 + 2 * N + 1) w3) 7 + 1) = fr' at F F2 F3 Fb Fc ⊢
    have es : slL (11 + N) = 5 := by rw [slL, if_neg (by omega), if_neg (by omega)]
    have en : slN (11 + N) = nI N := by rw [slN, if_neg (by omega), if_neg (by omega), Nat.add_sub_cancel_left]
    have hN := hM.add (G' := G) (T' := T) (N' := N + 1) (s := 11 + N) (fr' := fr') (by omega) (by omega) (by omega) (by omega) (by omega) (fun t h => by unfold usd; omega) (by unfold usd; omega) m2 m3 ((F2 _ (by omega)).trans m4) (m5.cg (fun i _ => F2 _ (by omega))) ((PKf.cg (fun i _ => F2 _ (by omega))).trans m6) m7 (fun i h1 h2 h3 h4 => (F2 i h1).trans (m11 i h3 h4))
    rw [es, en, ← m8, ← m9, ← m10] at hN
    refine Or.inl ⟨(b3.l q).1, (b3.l q).2, true, G, D, T, N + 1, S, f.a10.trans ((e4 10 (by decide) (by decide) (by decide) (by decide) (by decide) (by decide) (by decide)).trans h10), f.a11.trans (m1.trans (congrArg nI (by omega))), hN, ⟨c1, c2, c3, by omega, c5, c6, (F 3 (by omega) (by omega) (by omega)).trans c7, c8, (F 5 (by omega) (by omega) (by omega)).trans c9, c10, (F 6 (by omega) (by omega) (by omega)).trans c11, rfl, F3, c14, (F 8 (by omega) (by omega) (by omega)).trans c15, c16.trans (F 4 (by omega) (by omega) (by omega)).symm⟩, hE.cg rfl rfl rfl (fun i hi => F i (by omega) (by omega) (by omega)), hg.cg (fun _ _ => ⟨rfl, rfl, rfl⟩) (fun g hg j hj => F _ (by omega) (by omega) (by omega)), hp.cg c1 (fun _ _ => rfl) (fun g hg => F _ (by omega) (by omega) (by omega)), hw.cg (fun _ _ => ⟨rfl, rfl, rfl⟩) (fun i h1 h2 => F i (by omega) (by omega) (by omega)), htl.cg c3 (fun _ _ => ⟨rfl, rfl⟩) (fun i h1 h2 => F i (by omega) (by omega) (by omega)), hnd.add hK (fun t h => ⟨upd_n _ _ (by omega), upd_n _ _ (by omega)⟩) (fun i h1 h2 => F i (by omega) (by omega) (by omega)) ⟨(upd_s _ _ _).trans (q2.2.1.trans Fb.symm), (upd_s _ _ _).trans (q3.2.1.trans Fc.symm)⟩, hsi.cg c5 (fun _ _ => ⟨rfl, rfl, rfl⟩) (fun i h1 h2 => F i (by omega) (by omega) (by omega)), fun z => absurd z (by decide)⟩
  · exact Or.inr (b3.d q)
theorem ix104a (G : Nat) : ((104 : Int32) + ((3 : Int32) * nI G)) = nI (104 + 3 * G) := by
  rw [show (104 : Int32) = nI 104 from rfl, show (3 : Int32) = nI 3 from rfl, mulI, addI]
theorem ix104b (G : Nat) : nI (104 + 3 * G) + 1 = nI (104 + 3 * G + 1) := sI _
theorem ix104c (G : Nat) : nI (104 + 3 * G) + 2 = nI (104 + 3 * G + 2) := by rw [show (2 : Int32) = nI 2 from rfl, addI]
/-- a known guest, taken -/
theorem passed_lock {n L p G T N : Nat} (hn : 1000 ≤ n) {tp mt : Nat → Int32} (ht : TAPE L tp mt) {Y : Nat → Int64} {f13 f14 fr o om lt : Nat → Int32} {c : Int64} (hM : NAM G T N Y f13 f14 fr) (h11 : o 11 = nI (G + T + N)) (hS : ST L p o c om lt) :
    ∃ v v2 o1 om1 o' c' om' lt', fX5_knownGuest n o c Y f13 f14 = some (v, o1, c) ∧ fX5_taken n v o1 c tp = some (v, o', c') ∧ fX10_guestHere n om lt fr = some (v2, om1) ∧ fX10_guestPassed n om mt lt fr = some (v2, om', lt') ∧ ST L p o' c' om' lt' ∧ FO o o' ∧ FM om om' ∧ (om' 13 = 0 → ∃ g, g < G ∧ v = nI g ∧ v2 = nI g) ∧ (¬ om' 13 = 0 → v = -1) := by
  obtain ⟨v, v2, o1, om1, e1, e2, e3, e4, ⟨rfl, rfl, hl, hT, g, g1, g2, g3⟩ | ⟨hd, e5⟩⟩ := known_lock hn hM h11 hS
  · obtain ⟨o2, c2, om2, lt2, t1, -, t2, t3, t4, t5, t6, -⟩ := take_lock hn ht hl hT
    exact ⟨v, v2, o1, om1, o2, c2, om2, lt2, e1, t1 v, e2, by rw [fX10_guestPassed, e2, ob2_ss, if_pos hl.1, t2, ob2_ss], Or.inl ⟨t3, t4⟩, t5, t6, fun _ => ⟨g, g1, g2, g3⟩, fun q => absurd t3.1 q⟩
  · exact ⟨v, v2, o1, om1, o1, c, om1, lt, e1, by rw [e5, taken_d hd.2.1], e2, by rw [fX10_guestPassed, e2, ob2_ss, if_neg hd.n], Or.inr hd, e3, e4, fun q => absurd q hd.n, fun _ => e5⟩
theorem si_lock {n L p G D T N S : Nat} (hn : 1000 ≤ n) {tp mt : Nat → Int32} (ht : TAPE L tp mt) {H : Nat → Nat → Int32} {fr o om lt f13 f14 : Nat → Int32} {c : Int64} {Y : Nat → Int64} (hl : LIVE o om) (hT : TOKR L p o c om lt) (h10 : o 10 = 1) (h11 : o 11 = nI (G + T + N)) (hM : NAM G T N Y f13 f14 fr) (hH : RH true G D T N S H fr) (hK : S < 6) {x y : Int32} (hxy : (x = 1 ∧ y = 0) ∨ (x = 0 ∧ y = 1)) :
    ∃ o' c' h5 h6 h7 h8 om' lt' fr', fX5_readSight n x o c tp Y f13 f14 (H 15) (H 18) (H 19) (H 20) = some (o', c', h5, h6, h7, h8) ∧ fX10_seenLine n y om mt lt fr = some (om', lt', fr') ∧ RDS L p (va_up (va_up (va_up (va_up H 15 h5) 18 h6) 19 h7) 20 h8) fr' o' c' om' lt' Y f13 f14 ∧ FO2 o o' ∧ FM om om' := by
  obtain ⟨⟨c1, c2, c3, c4, c5, c6, c7, c8, c9, c10, c11, c12, c13, c14, c15, c16⟩, hE, hg, hp, hw, htl, hnd, hsi, -⟩ := hH
  obtain ⟨v, w, o1, om1, o2, y2, om2, lt2, e1, e2, -, e3, e4, e5, e6, e7, -⟩ := passed_lock hn ht hM h11 (Or.inl ⟨hl, hT⟩)
  obtain ⟨v3, w3, o4, y4, om4, lt4, b1, b2, b3, b4, b5, b6⟩ := am21 hn ht e4
  have kc : ¬ ((nI S : Int32) < 0 ∨ 6 ≤ (nI S : Int32).toNatClampNeg) := ckI hK (by omega)
  have cl : fX5_readSight n x o c tp Y f13 f14 (H 15) (H 18) (H 19) (H 20) = some (o4, y4, upd (H 15) 3 (nI (S + 1)), upd (H 18) S v, upd (H 19) S v3, upd (H 20) S x) := by
    rw [fX5_readSight, c14, e1, ob3_ss, e2, ob3_ss, if_neg kc, b1, ob3_ss, if_neg kc, if_neg kc, clI (by omega), sI]
  have rf : fX10_seenLine n y om mt lt fr = some (om4, lt4, if om4 13 = 0 then upd (upd (upd (upd fr (104 + 3 * S) w) (104 + 3 * S + 1) w3) (104 + 3 * S + 2) y) 8 ((upd (upd (upd fr (104 + 3 * S) w) (104 + 3 * S + 1) w3) (104 + 3 * S + 2) y) 8 + 1) else upd (upd (upd fr (104 + 3 * S) w) (104 + 3 * S + 1) w3) (104 + 3 * S + 2) y) := by
    rw [fX10_seenLine, if_pos hl.1, c15, e3, ob3_ss, ix104a, if_neg (ckI (by omega) (by omega)), b2, ob3_ss, ix104b, if_neg (ckI (by omega) (by omega)), ix104c, if_neg (ckI (by omega) (by omega)), clI (by omega), clI (by omega), clI (by omega)]
    by_cases q : om4 13 = 0
    · rw [if_pos q, if_pos q]
    · rw [if_neg q, if_neg q]
  have f := e5.trans b4
  refine ⟨_, _, _, _, _, _, _, _, _, cl, rf, ?_, f.two, e6.trans b5⟩
  by_cases q : om4 13 = 0
  · rw [if_pos q]
    have q3 := b6 q
    obtain ⟨g, g1, g2, g3⟩ := e7 q3.1
    obtain ⟨kk3, k31, k32, k33⟩ := q3.2.2
    have F : ∀ i, i ≠ 8 → (i < 104 + 3 * S ∨ 104 + 3 * S + 3 ≤ i) → upd (upd (upd (upd fr (104 + 3 * S) w) (104 + 3 * S + 1) w3) (104 + 3 * S + 2) y) 8 ((upd (upd (upd fr (104 + 3 * S) w) (104 + 3 * S + 1) w3) (104 + 3 * S + 2) y) 8 + 1) i = fr i := fun i h3 h9 => by
      rw [upd_n _ _ (by omega), upd_n _ _ (by omega), upd_n _ _ (by omega), upd_n _ _ (by omega)]
    have F3 : upd (upd (upd (upd fr (104 + 3 * S) w) (104 + 3 * S + 1) w3) (104 + 3 * S + 2) y) 8 ((upd (upd (upd fr (104 + 3 * S) w) (104 + 3 * S + 1) w3) (104 + 3 * S + 2) y) 8 + 1) 8 = nI (S + 1) := by
      rw [upd_s, upd_n _ _ (by omega), upd_n _ _ (by omega), upd_n _ _ (by omega), c15, sI]
    have Fa : upd (upd (upd (upd fr (104 + 3 * S) w) (104 + 3 * S + 1) w3) (104 + 3 * S + 2) y) 8 ((upd (upd (upd fr (104 + 3 * S) w) (104 + 3 * S + 1) w3) (104 + 3 * S + 2) y) 8 + 1) (104 + 3 * S) = w := by
      rw [upd_n _ _ (by omega), upd_n _ _ (by omega), upd_n _ _ (by omega), upd_s]
    have Fb : upd (upd (upd (upd fr (104 + 3 * S) w) (104 + 3 * S + 1) w3) (104 + 3 * S + 2) y) 8 ((upd (upd (upd fr (104 + 3 * S) w) (104 + 3 * S + 1) w3) (104 + 3 * S + 2) y) 8 + 1) (104 + 3 * S + 1) = w3 := by
      rw [upd_n _ _ (by omega), upd_n _ _ (by omega), upd_s]
    have Fc : upd (upd (upd (upd fr (104 + 3 * S) w) (104 + 3 * S + 1) w3) (104 + 3 * S + 2) y) 8 ((upd (upd (upd fr (104 + 3 * S) w) (104 + 3 * S + 1) w3) (104 + 3 * S + 2) y) 8 + 1) (104 + 3 * S + 2) = y := by
      rw [upd_n _ _ (by omega), upd_s]
    generalize upd (upd (upd (upd fr (104 + 3 * S) w) (104 + 3 * S + 1) w3) (104 + 3 * S + 2) y) 8 ((upd (upd (upd fr (104 + 3 * S) w) (104 + 3 * S + 1) w3) (104 + 3 * S + 2) y) 8 + 1) = fr' at F F3 Fa Fb Fc ⊢
    refine Or.inl ⟨(b3.l q).1, (b3.l q).2, true, G, D, T, N, S + 1, f.a10.trans h10, f.a11.trans h11, hM.cg (fun i h1 h2 => F i (by omega) (by omega)), ⟨c1, c2, c3, c4, by omega, c6, (F 3 (by omega) (by omega)).trans c7, c8, (F 5 (by omega) (by omega)).trans c9, c10, (F 6 (by omega) (by omega)).trans c11, c12, (F 7 (by omega) (by omega)).trans c13, rfl, F3, c16.trans (F 4 (by omega) (by omega)).symm⟩, hE.cg rfl rfl rfl (fun i hi => F i (by omega) (by omega)), hg.cg (fun _ _ => ⟨rfl, rfl, rfl⟩) (fun g hg j hj => F _ (by omega) (by omega)), hp.cg c1 (fun _ _ => rfl) (fun g hg => F _ (by omega) (by omega)), hw.cg (fun _ _ => ⟨rfl, rfl, rfl⟩) (fun i h1 h2 => F i (by omega) (by omega)), htl.cg c3 (fun _ _ => ⟨rfl, rfl⟩) (fun i h1 h2 => F i (by omega) (by omega)), hnd.cg c4 (fun _ _ => ⟨rfl, rfl⟩) (fun i h1 h2 => F i (by omega) (by omega)), hsi.add hK (fun t h => ⟨upd_n _ _ (by omega), upd_n _ _ (by omega), upd_n _ _ (by omega)⟩) (fun i h1 h2 => F i (by omega) (by omega)) ⟨(upd_s _ _ _).trans (g2.trans (g3.symm.trans Fa.symm)), (upd_s _ _ _).trans (q3.2.1.trans Fb.symm), ?_, ⟨g, g1, Fa.trans g3⟩, ⟨kk3, k32, Fb.trans (q3.2.1.symm.trans k33)⟩⟩, fun z => absurd z (by decide)⟩
    rcases hxy with ⟨h1, h2⟩ | ⟨h1, h2⟩
    · exact Or.inl ⟨(upd_s _ _ _).trans h1, Fc.trans h2⟩
    · exact Or.inr ⟨(upd_s _ _ _).trans h1, Fc.trans h2⟩
  · exact Or.inr (b3.d q)
