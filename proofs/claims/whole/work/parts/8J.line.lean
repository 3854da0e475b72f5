/-! one line of a text: class and reference together -/
theorem jn2 {Z : Type} (R : Int32 → Option Z) (c : Prop) [Decidable c] (a b : Int32) : jn R (fun J => if c then J a else J b) = R (if c then a else b) := by
  show (if c then R a else R b) = R (if c then a else b)
  by_cases h : c
  · rw [if_pos h, if_pos h]
  · rw [if_neg h, if_neg h]
theorem bg_n {n i : Nat} {x : Int32} {om mt lt fr : Nat → Int32} (h : fX10_isWord n i om lt = some 0) : fX10_begins n i x om mt lt fr = some (0, om, lt) := by rw [fX10_begins, h, ob1_ss, if_pos i00]
theorem bg_full {n i : Nat} {om mt lt fr : Nat → Int32} (h : fX10_isWord n i om lt = some 1) (h13 : om 13 = 0) : fX10_begins n i 0 om mt lt fr = some (1, upd (upd (upd om 13 1) 9 5) 10 (om 4), lt) := by
  have dn : upd (upd (upd om 13 1) 9 5) 10 (om 4) 13 = 1 := rfl
  rw [fX10_begins, h, ob1_ss, if_neg i10, if_pos i00, wrong_l h13, ob1_ss, wrong_d dn, ob1_ss, if_neg (show ¬ upd (upd (upd om 13 1) 9 5) 10 (om 4) 13 = 0 by rw [dn]; decide), ite_self]
theorem bg_lacks {n i : Nat} {om mt lt fr : Nat → Int32} (h : fX10_isWord n i om lt = some 1) (h13 : om 13 = 0) (hf : fr 1 = 0) : fX10_begins n i 1 om mt lt fr = some (1, upd (upd (upd om 13 1) 9 6) 10 (om 4), lt) := by
  have dn : upd (upd (upd om 13 1) 9 6) 10 (om 4) 13 = 1 := rfl
  rw [fX10_begins, h, ob1_ss, if_neg i10, if_neg i10, if_pos hf, wrong_l h13, ob1_ss, if_neg (by rw [dn]; decide)]
theorem bg_go {n i : Nat} {om mt lt fr om' lt' : Nat → Int32} (h : fX10_isWord n i om lt = some 1) (h13 : om 13 = 0) (hf : ¬ fr 1 = 0) (hx : fX10_next n om mt lt = some (om', lt')) : fX10_begins n i 1 om mt lt fr = some (1, om', lt') := by
  rw [fX10_begins, h, ob1_ss, if_neg i10, if_neg i10, if_neg hf, if_pos h13, hx, ob2_ss]
theorem tl_full {n : Nat} {i : Int32} (hi : ¬ i = -1 ∧ ¬ i = 0) {o tp h5 h15 : Nat → Int32} {c : Int64} (lo : fX5_lineOfWord n o c = some i) (fu : fX5_isFull n i h5 h15 = some 1) (h2 : o 2 = 0) : fX5_takeLine n o c tp h5 h15 = some (-1, upd (upd o 2 5) 3 (o 6), c) := by
  rw [fX5_takeLine, lo, ob1_ss, if_neg hi.1]
  dsimp only [jn]
  rw [if_neg hi.2, fu, ob1_ss, if_neg i10, fail_l h2, ob3_ss]
theorem tl_lacks {n : Nat} {i : Int32} (hi : ¬ i = -1 ∧ ¬ i = 0) {o tp h5 h15 : Nat → Int32} {c : Int64} (lo : fX5_lineOfWord n o c = some i) (fu : fX5_isFull n i h5 h15 = some 0) (h2 : o 2 = 0) (h10 : o 10 = 0) : fX5_takeLine n o c tp h5 h15 = some (-1, upd (upd o 2 6) 3 (o 6), c) := by
  rw [fX5_takeLine, lo, ob1_ss, if_neg hi.1]
  dsimp only [jn]
  rw [if_neg hi.2, fu, ob1_ss, if_pos i00, if_neg hi.2, if_pos h10, fail_l h2, ob3_ss]
theorem tl_go {n : Nat} {i : Int32} (hi : ¬ i = -1 ∧ ¬ i = 0) {o tp h5 h15 o' : Nat → Int32} {c c' : Int64} (lo : fX5_lineOfWord n o c = some i) (fu : fX5_isFull n i h5 h15 = some 0) (h10 : o 10 = 1) (tk : fX5_taken n i o c tp = some (i, o', c')) : fX5_takeLine n o c tp h5 h15 = some (i, o', c') := by
  rw [fX5_takeLine, lo, ob1_ss, if_neg hi.1]
  dsimp only [jn]
  rw [if_neg hi.2, fu, ob1_ss, if_pos i00, if_neg hi.2, if_neg (by rw [h10]; decide), tk, ob3_ss]
theorem line_die {n L p : Nat} {tp mt : Nat → Int32} {H : Nat → Nat → Int32} {fr o om lt f13 f14 : Nat → Int32} {c : Int64} {Y : Nat → Int64} (hT : TOKR L p o c om lt) {x : Int32} (hx : ¬ x = 0) (h1 : fX5_takeLine n o c tp (H 5) (H 15) = some (-1, upd (upd o 2 x) 3 (o 6), c)) (h2 : fX10_readLine n om mt lt fr = some (upd (upd (upd om 13 1) 9 x) 10 (om 4), lt, fr)) : ∃ o' c' Y' a13 a14 H' om' lt' fr', fX5_readLine n o c tp Y f13 f14 (H 5) (H 6) (H 7) (H 8) (H 9) (H 10) (H 11) (H 12) (H 13) (H 14) (H 15) (H 16) (H 17) (H 18) (H 19) (H 20) = some (o', c', Y', a13, a14, H' 5, H' 6, H' 7, H' 8, H' 9, H' 10, H' 11, H' 12, H' 13, H' 14, H' 15, H' 16, H' 17, H' 18, H' 19, H' 20) ∧ fX10_readLine n om mt lt fr = some (om', lt', fr') ∧ RDS L p H' fr' o' c' om' lt' Y' a13 a14 ∧ FO2 o o' ∧ FM om om' := by
  obtain ⟨d1, d2, d3⟩ := die hx hT.at
  refine ⟨_, c, Y, f13, f14, H, _, _, _, ?_, h2, Or.inr d1, d2.two, d3⟩
  rw [fX5_readLine, h1, ob3_ss, if_neg (by decide), if_neg (by decide), if_neg (by decide), if_neg (by decide), if_neg (by decide), if_neg (by decide), if_neg (by decide), if_neg (by decide)]
theorem lguest_lock {n L p G D T N S : Nat} {op : Bool} (hn : 1000 ≤ n) {tp mt : Nat → Int32} (ht : TAPE L tp mt) {H : Nat → Nat → Int32} {fr o om lt f13 f14 : Nat → Int32} {c : Int64} {Y : Nat → Int64} (hl : LIVE o om) (hT : TOKR L p o c om lt) (h10 : o 10 = (if op = true then 1 else 0)) (h11 : o 11 = nI (G + T + N)) (hM : NAM G T N Y f13 f14 fr) (hH : RH op G D T N S H fr) (lo : fX5_lineOfWord n o c = some 1) (w : ∀ j, j < 1 → fX10_isWord n j om lt = some 0) (wi : fX10_isWord n 1 om lt = some 1) : ∃ o' c' Y' a13 a14 H' om' lt' fr', fX5_readLine n o c tp Y f13 f14 (H 5) (H 6) (H 7) (H 8) (H 9) (H 10) (H 11) (H 12) (H 13) (H 14) (H 15) (H 16) (H 17) (H 18) (H 19) (H 20) = some (o', c', Y', a13, a14, H' 5, H' 6, H' 7, H' 8, H' 9, H' 10, H' 11, H' 12, H' 13, H' 14, H' 15, H' 16, H' 17, H' 18, H' 19, H' 20) ∧ fX10_readLine n om mt lt fr = some (om', lt', fr') ∧ RDS L p H' fr' o' c' om' lt' Y' a13 a14 ∧ FO2 o o' ∧ FM om om' := by
  have hi : ¬ (1 : Int32) = -1 ∧ ¬ (1 : Int32) = 0 := by decide
  have dd : ∀ x : Int32, ¬ upd (upd (upd om 13 1) 9 x) 10 (om 4) 13 = 0 := fun x => i10
  obtain ⟨c1, c2, c3, c4, c5, c6, c7, c8, c9, c10, c11, c12, c13, c14, c15, c16⟩ := hH.1
  by_cases hK : G < 7
  · have fu : fX5_isFull n 1 (H 5) (H 15) = some 0 := by
      rw [fX5_isFull, if_pos rfl, c6, if_pos (show nI G < 7 from nI_lt (b := 7) hK (by omega))]
    have hs : (if (7 : Int32) ≤ nI G then (0 : Int32) else 1) = 1 := if_neg (show ¬ nI 7 ≤ nI G from nI_ge hK (by omega))
    cases op with
    | false =>
      refine line_die hT (x := 6) (by decide) (tl_lacks hi lo fu hl.2.1 h10) ?_
      rw [fX10_readLine, w 0 (by decide), ob1_ss, if_pos i00, jn2, c7, hs, bg_lacks wi hl.1 (hH.2.1.2 rfl), ob3_ss, if_neg i10, fX10_guestLine, if_neg (dd 6), ob3_ss]
    | true =>
      have hf : ¬ fr 1 = 0 := by
        obtain ⟨k, k1, k2, k3⟩ := (hH.2.1.1 rfl).2.2.2.2.1
        rw [k3]
        exact fun e => absurd (nI_inj (b := 0) (by omega) (by omega) e) (by omega)
      obtain ⟨o1, y1, om1, lt1, t1, -, t2, t3, t4, t5, t6, -⟩ := take_lock hn ht hl hT
      have tl := tl_go (tp := tp) hi lo fu h10 (t1 1)
      obtain ⟨o', c', Y', a13, a14, h0, h1, h2, h3, h4, om', lt', fr', e1, e2, e3, e4, e5⟩ := gu_lock hn ht t3 t4 (t5.a10.trans h10) (t5.a11.trans h11) hM hH hK
      refine ⟨o', c', Y', a13, a14, (va_up (va_up (va_up (va_up (va_up H 5 h0) 6 h1) 7 h2) 8 h3) 9 h4), om', lt', fr', ?_, ?_, e3, t5.two.trans e4, t6.trans e5⟩
      · rw [fX5_readLine, tl, ob3_ss, if_neg (by decide), if_pos rfl, e1, ob10]
        rfl
      · rw [fX10_readLine, w 0 (by decide), ob1_ss, if_pos i00, jn2, c7, hs, bg_go wi hl.1 hf t2, ob3_ss, if_neg i10, e2, ob3_ss]
  · have fu : fX5_isFull n 1 (H 5) (H 15) = some 1 := by
      rw [fX5_isFull, if_pos rfl, c6, if_neg (show ¬ nI G < 7 from nI_nlt (b := 7) (by omega) (by omega))]
    have hs : (if (7 : Int32) ≤ nI G then (0 : Int32) else 1) = 0 := if_pos (show nI 7 ≤ nI G from nI_le (by omega) (by omega))
    refine line_die hT (x := 5) (by decide) (tl_full hi lo fu hl.2.1) ?_
    rw [fX10_readLine, w 0 (by decide), ob1_ss, if_pos i00, jn2, c7, hs, bg_full wi hl.1, ob3_ss, if_neg i10, fX10_guestLine, if_neg (dd 5), ob3_ss]
theorem lpair_lock {n L p G D T N S : Nat} {op : Bool} (hn : 1000 ≤ n) {tp mt : Nat → Int32} (ht : TAPE L tp mt) {H : Nat → Nat → Int32} {fr o om lt f13 f14 : Nat → Int32} {c : Int64} {Y : Nat → Int64} (hl : LIVE o om) (hT : TOKR L p o c om lt) (h10 : o 10 = (if op = true then 1 else 0)) (h11 : o 11 = nI (G + T + N)) (hM : NAM G T N Y f13 f14 fr) (hH : RH op G D T N S H fr) (lo : fX5_lineOfWord n o c = some 2) (w : ∀ j, j < 2 → fX10_isWord n j om lt = some 0) (wi : fX10_isWord n 2 om lt = some 1) : ∃ o' c' Y' a13 a14 H' om' lt' fr', fX5_readLine n o c tp Y f13 f14 (H 5) (H 6) (H 7) (H 8) (H 9) (H 10) (H 11) (H 12) (H 13) (H 14) (H 15) (H 16) (H 17) (H 18) (H 19) (H 20) = some (o', c', Y', a13, a14, H' 5, H' 6, H' 7, H' 8, H' 9, H' 10, H' 11, H' 12, H' 13, H' 14, H' 15, H' 16, H' 17, H' 18, H' 19, H' 20) ∧ fX10_readLine n om mt lt fr = some (om', lt', fr') ∧ RDS L p H' fr' o' c' om' lt' Y' a13 a14 ∧ FO2 o o' ∧ FM om om' := by
  have hi : ¬ (2 : Int32) = -1 ∧ ¬ (2 : Int32) = 0 := by decide
  have dd : ∀ x : Int32, ¬ upd (upd (upd om 13 1) 9 x) 10 (om 4) 13 = 0 := fun x => i10
  obtain ⟨c1, c2, c3, c4, c5, c6, c7, c8, c9, c10, c11, c12, c13, c14, c15, c16⟩ := hH.1
  have fu : fX5_isFull n 2 (H 5) (H 15) = some 0 := by
    rw [fX5_isFull, if_neg (by decide), if_pos rfl]
  cases op with
  | false =>
    refine line_die hT (x := 6) (by decide) (tl_lacks hi lo fu hl.2.1 h10) ?_
    rw [fX10_readLine, w 0 (by decide), ob1_ss, if_pos i00, jn2, bg_n (w 1 (by decide)), ob3_ss, if_pos i00, bg_lacks wi hl.1 (hH.2.1.2 rfl), ob3_ss, if_neg i10, fX10_pairLine, if_neg (dd 6), ob3_ss]
  | true =>
    have hf : ¬ fr 1 = 0 := by
      obtain ⟨k, k1, k2, k3⟩ := (hH.2.1.1 rfl).2.2.2.2.1
      rw [k3]
      exact fun e => absurd (nI_inj (b := 0) (by omega) (by omega) e) (by omega)
    obtain ⟨o1, y1, om1, lt1, t1, -, t2, t3, t4, t5, t6, -⟩ := take_lock hn ht hl hT
    have tl := tl_go (tp := tp) hi lo fu h10 (t1 2)
    obtain ⟨o', c', h0, h1, om', lt', fr', e1, e2, e3, e4, e5⟩ := pa_lock hn ht t3 t4 (t5.a10.trans h10) (t5.a11.trans h11) hM hH
    refine ⟨o', c', Y, f13, f14, (va_up (va_up H 5 h0) 9 h1), om', lt', fr', ?_, ?_, e3, t5.two.trans e4, t6.trans e5⟩
    · rw [fX5_readLine, tl, ob3_ss, if_neg (by decide), if_neg (by decide), if_pos rfl, e1, ob4_ss]
      rfl
    · rw [fX10_readLine, w 0 (by decide), ob1_ss, if_pos i00, jn2, bg_n (w 1 (by decide)), ob3_ss, if_pos i00, bg_go wi hl.1 hf t2, ob3_ss, if_neg i10, e2, ob3_ss]
theorem ldraws_lock {n L p G D T N S : Nat} {op : Bool} (hn : 1000 ≤ n) {tp mt : Nat → Int32} (ht : TAPE L tp mt) {H : Nat → Nat → Int32} {fr o om lt f13 f14 : Nat → Int32} {c : Int64} {Y : Nat → Int64} (hl : LIVE o om) (hT : TOKR L p o c om lt) (h10 : o 10 = (if op = true then 1 else 0)) (h11 : o 11 = nI (G + T + N)) (hM : NAM G T N Y f13 f14 fr) (hH : RH op G D T N S H fr) (lo : fX5_lineOfWord n o c = some 3) (w : ∀ j, j < 3 → fX10_isWord n j om lt = some 0) (wi : fX10_isWord n 3 om lt = some 1) : ∃ o' c' Y' a13 a14 H' om' lt' fr', fX5_readLine n o c tp Y f13 f14 (H 5) (H 6) (H 7) (H 8) (H 9) (H 10) (H 11) (H 12) (H 13) (H 14) (H 15) (H 16) (H 17) (H 18) (H 19) (H 20) = some (o', c', Y', a13, a14, H' 5, H' 6, H' 7, H' 8, H' 9, H' 10, H' 11, H' 12, H' 13, H' 14, H' 15, H' 16, H' 17, H' 18, H' 19, H' 20) ∧ fX10_readLine n om mt lt fr = some (om', lt', fr') ∧ RDS L p H' fr' o' c' om' lt' Y' a13 a14 ∧ FO2 o o' ∧ FM om om' := by
  have hi : ¬ (3 : Int32) = -1 ∧ ¬ (3 : Int32) = 0 := by decide
  have dd : ∀ x : Int32, ¬ upd (upd (upd om 13 1) 9 x) 10 (om 4) 13 = 0 := fun x => i10
  obtain ⟨c1, c2, c3, c4, c5, c6, c7, c8, c9, c10, c11, c12, c13, c14, c15, c16⟩ := hH.1
  by_cases hK : D < 8
  · have fu : fX5_isFull n 3 (H 5) (H 15) = some 0 := by
      rw [fX5_isFull, if_neg (by decide), if_neg (by decide), if_pos rfl, c8, if_pos (show nI D < 8 from nI_lt (b := 8) hK (by omega))]
    have hs : (if (8 : Int32) ≤ nI D then (0 : Int32) else 1) = 1 := if_neg (show ¬ nI 8 ≤ nI D from nI_ge hK (by omega))
    cases op with
    | false =>
      refine line_die hT (x := 6) (by decide) (tl_lacks hi lo fu hl.2.1 h10) ?_
      rw [fX10_readLine, w 0 (by decide), ob1_ss, if_pos i00, jn2, bg_n (w 1 (by decide)), ob3_ss, if_pos i00, bg_n (w 2 (by decide)), ob3_ss, if_pos i00, jn2, c9, hs, bg_lacks wi hl.1 (hH.2.1.2 rfl), ob3_ss, if_neg i10, fX10_drawsLine, if_neg (dd 6), ob3_ss]
    | true =>
      have hf : ¬ fr 1 = 0 := by
        obtain ⟨k, k1, k2, k3⟩ := (hH.2.1.1 rfl).2.2.2.2.1
        rw [k3]
        exact fun e => absurd (nI_inj (b := 0) (by omega) (by omega) e) (by omega)
      obtain ⟨o1, y1, om1, lt1, t1, -, t2, t3, t4, t5, t6, -⟩ := take_lock hn ht hl hT
      have tl := tl_go (tp := tp) hi lo fu h10 (t1 3)
      obtain ⟨o', c', h0, h1, h2, h3, om', lt', fr', e1, e2, e3, e4, e5⟩ := dr_lock hn ht t3 t4 (t5.a10.trans h10) (t5.a11.trans h11) hM hH hK
      refine ⟨o', c', Y, f13, f14, (va_up (va_up (va_up (va_up H 5 h0) 10 h1) 11 h2) 12 h3), om', lt', fr', ?_, ?_, e3, t5.two.trans e4, t6.trans e5⟩
      · rw [fX5_readLine, tl, ob3_ss, if_neg (by decide), if_neg (by decide), if_neg (by decide), if_pos rfl, e1, ob6_ss]
        rfl
      · rw [fX10_readLine, w 0 (by decide), ob1_ss, if_pos i00, jn2, bg_n (w 1 (by decide)), ob3_ss, if_pos i00, bg_n (w 2 (by decide)), ob3_ss, if_pos i00, jn2, c9, hs, bg_go wi hl.1 hf t2, ob3_ss, if_neg i10, e2, ob3_ss]
  · have fu : fX5_isFull n 3 (H 5) (H 15) = some 1 := by
      rw [fX5_isFull, if_neg (by decide), if_neg (by decide), if_pos rfl, c8, if_neg (show ¬ nI D < 8 from nI_nlt (b := 8) (by omega) (by omega))]
    have hs : (if (8 : Int32) ≤ nI D then (0 : Int32) else 1) = 0 := if_pos (show nI 8 ≤ nI D from nI_le (by omega) (by omega))
    refine line_die hT (x := 5) (by decide) (tl_full hi lo fu hl.2.1) ?_
    rw [fX10_readLine, w 0 (by decide), ob1_ss, if_pos i00, jn2, bg_n (w 1 (by decide)), ob3_ss, if_pos i00, bg_n (w 2 (by decide)), ob3_ss, if_pos i00, jn2, c9, hs, bg_full wi hl.1, ob3_ss, if_neg i10, fX10_drawsLine, if_neg (dd 5), ob3_ss]
theorem ltale_lock {n L p G D T N S : Nat} {op : Bool} (hn : 1000 ≤ n) {tp mt : Nat → Int32} (ht : TAPE L tp mt) {H : Nat → Nat → Int32} {fr o om lt f13 f14 : Nat → Int32} {c : Int64} {Y : Nat → Int64} (hl : LIVE o om) (hT : TOKR L p o c om lt) (h10 : o 10 = (if op = true then 1 else 0)) (h11 : o 11 = nI (G + T + N)) (hM : NAM G T N Y f13 f14 fr) (hH : RH op G D T N S H fr) (lo : fX5_lineOfWord n o c = some 4) (w : ∀ j, j < 4 → fX10_isWord n j om lt = some 0) (wi : fX10_isWord n 4 om lt = some 1) : ∃ o' c' Y' a13 a14 H' om' lt' fr', fX5_readLine n o c tp Y f13 f14 (H 5) (H 6) (H 7) (H 8) (H 9) (H 10) (H 11) (H 12) (H 13) (H 14) (H 15) (H 16) (H 17) (H 18) (H 19) (H 20) = some (o', c', Y', a13, a14, H' 5, H' 6, H' 7, H' 8, H' 9, H' 10, H' 11, H' 12, H' 13, H' 14, H' 15, H' 16, H' 17, H' 18, H' 19, H' 20) ∧ fX10_readLine n om mt lt fr = some (om', lt', fr') ∧ RDS L p H' fr' o' c' om' lt' Y' a13 a14 ∧ FO2 o o' ∧ FM om om' := by
  have hi : ¬ (4 : Int32) = -1 ∧ ¬ (4 : Int32) = 0 := by decide
  have dd : ∀ x : Int32, ¬ upd (upd (upd om 13 1) 9 x) 10 (om 4) 13 = 0 := fun x => i10
  obtain ⟨c1, c2, c3, c4, c5, c6, c7, c8, c9, c10, c11, c12, c13, c14, c15, c16⟩ := hH.1
  by_cases hK : T < 4
  · have fu : fX5_isFull n 4 (H 5) (H 15) = some 0 := by
      rw [fX5_isFull, if_neg (by decide), if_neg (by decide), if_neg (by decide), if_pos rfl, c10, if_pos (show nI T < 4 from nI_lt (b := 4) hK (by omega))]
    have hs : (if (4 : Int32) ≤ nI T then (0 : Int32) else 1) = 1 := if_neg (show ¬ nI 4 ≤ nI T from nI_ge hK (by omega))
    cases op with
    | false =>
      refine line_die hT (x := 6) (by decide) (tl_lacks hi lo fu hl.2.1 h10) ?_
      rw [fX10_readLine, w 0 (by decide), ob1_ss, if_pos i00, jn2, bg_n (w 1 (by decide)), ob3_ss, if_pos i00, bg_n (w 2 (by decide)), ob3_ss, if_pos i00, jn2, bg_n (w 3 (by decide)), ob3_ss, if_pos i00, jn2, c11, hs, bg_lacks wi hl.1 (hH.2.1.2 rfl), ob3_ss, if_neg i10, fX10_taleLine, if_neg (dd 6), ob3_ss]
    | true =>
      have hf : ¬ fr 1 = 0 := by
        obtain ⟨k, k1, k2, k3⟩ := (hH.2.1.1 rfl).2.2.2.2.1
        rw [k3]
        exact fun e => absurd (nI_inj (b := 0) (by omega) (by omega) e) (by omega)
      obtain ⟨o1, y1, om1, lt1, t1, -, t2, t3, t4, t5, t6, -⟩ := take_lock hn ht hl hT
      have tl := tl_go (tp := tp) hi lo fu h10 (t1 4)
      obtain ⟨o', c', Y', a13, a14, h0, h1, h2, om', lt', fr', e1, e2, e3, e4, e5⟩ := ta_lock hn ht t3 t4 (t5.a10.trans h10) (t5.a11.trans h11) hM hH hK
      refine ⟨o', c', Y', a13, a14, (va_up (va_up (va_up H 5 h0) 13 h1) 14 h2), om', lt', fr', ?_, ?_, e3, t5.two.trans e4, t6.trans e5⟩
      · rw [fX5_readLine, tl, ob3_ss, if_neg (by decide), if_neg (by decide), if_neg (by decide), if_neg (by decide), if_pos rfl, e1, ob8_ss]
        rfl
      · rw [fX10_readLine, w 0 (by decide), ob1_ss, if_pos i00, jn2, bg_n (w 1 (by decide)), ob3_ss, if_pos i00, bg_n (w 2 (by decide)), ob3_ss, if_pos i00, jn2, bg_n (w 3 (by decide)), ob3_ss, if_pos i00, jn2, c11, hs, bg_go wi hl.1 hf t2, ob3_ss, if_neg i10, e2, ob3_ss]
  · have fu : fX5_isFull n 4 (H 5) (H 15) = some 1 := by
      rw [fX5_isFull, if_neg (by decide), if_neg (by decide), if_neg (by decide), if_pos rfl, c10, if_neg (show ¬ nI T < 4 from nI_nlt (b := 4) (by omega) (by omega))]
    have hs : (if (4 : Int32) ≤ nI T then (0 : Int32) else 1) = 0 := if_pos (show nI 4 ≤ nI T from nI_le (by omega) (by omega))
    refine line_die hT (x := 5) (by decide) (tl_full hi lo fu hl.2.1) ?_
    rw [fX10_readLine, w 0 (by decide), ob1_ss, if_pos i00, jn2, bg_n (w 1 (by decide)), ob3_ss, if_pos i00, bg_n (w 2 (by decide)), ob3_ss, if_pos i00, jn2, bg_n (w 3 (by decide)), ob3_ss, if_pos i00, jn2, c11, hs, bg_full wi hl.1, ob3_ss, if_neg i10, fX10_taleLine, if_neg (dd 5), ob3_ss]
theorem lneed_lock {n L p G D T N S : Nat} {op : Bool} (hn : 1000 ≤ n) {tp mt : Nat → Int32} (ht : TAPE L tp mt) {H : Nat → Nat → Int32} {fr o om lt f13 f14 : Nat → Int32} {c : Int64} {Y : Nat → Int64} (hl : LIVE o om) (hT : TOKR L p o c om lt) (h10 : o 10 = (if op = true then 1 else 0)) (h11 : o 11 = nI (G + T + N)) (hM : NAM G T N Y f13 f14 fr) (hH : RH op G D T N S H fr) (lo : fX5_lineOfWord n o c = some 5) (w : ∀ j, j < 5 → fX10_isWord n j om lt = some 0) (wi : fX10_isWord n 5 om lt = some 1) : ∃ o' c' Y' a13 a14 H' om' lt' fr', fX5_readLine n o c tp Y f13 f14 (H 5) (H 6) (H 7) (H 8) (H 9) (H 10) (H 11) (H 12) (H 13) (H 14) (H 15) (H 16) (H 17) (H 18) (H 19) (H 20) = some (o', c', Y', a13, a14, H' 5, H' 6, H' 7, H' 8, H' 9, H' 10, H' 11, H' 12, H' 13, H' 14, H' 15, H' 16, H' 17, H' 18, H' 19, H' 20) ∧ fX10_readLine n om mt lt fr = some (om', lt', fr') ∧ RDS L p H' fr' o' c' om' lt' Y' a13 a14 ∧ FO2 o o' ∧ FM om om' := by
  have hi : ¬ (5 : Int32) = -1 ∧ ¬ (5 : Int32) = 0 := by decide
  have dd : ∀ x : Int32, ¬ upd (upd (upd om 13 1) 9 x) 10 (om 4) 13 = 0 := fun x => i10
  obtain ⟨c1, c2, c3, c4, c5, c6, c7, c8, c9, c10, c11, c12, c13, c14, c15, c16⟩ := hH.1
  by_cases hK : N < 5
  · have fu : fX5_isFull n 5 (H 5) (H 15) = some 0 := by
      rw [fX5_isFull, if_neg (by decide), if_neg (by decide), if_neg (by decide), if_neg (by decide), if_pos rfl, c12, if_pos (show nI N < 5 from nI_lt (b := 5) hK (by omega))]
    have hs : (if (5 : Int32) ≤ nI N then (0 : Int32) else 1) = 1 := if_neg (show ¬ nI 5 ≤ nI N from nI_ge hK (by omega))
    cases op with
    | false =>
      refine line_die hT (x := 6) (by decide) (tl_lacks hi lo fu hl.2.1 h10) ?_
      rw [fX10_readLine, w 0 (by decide), ob1_ss, if_pos i00, jn2, bg_n (w 1 (by decide)), ob3_ss, if_pos i00, bg_n (w 2 (by decide)), ob3_ss, if_pos i00, jn2, bg_n (w 3 (by decide)), ob3_ss, if_pos i00, jn2, bg_n (w 4 (by decide)), ob3_ss, if_pos i00, jn2, c13, hs, bg_lacks wi hl.1 (hH.2.1.2 rfl), ob3_ss, if_neg i10, fX10_needLine, if_neg (dd 6), ob3_ss]
    | true =>
      have hf : ¬ fr 1 = 0 := by
        obtain ⟨k, k1, k2, k3⟩ := (hH.2.1.1 rfl).2.2.2.2.1
        rw [k3]
        exact fun e => absurd (nI_inj (b := 0) (by omega) (by omega) e) (by omega)
      obtain ⟨o1, y1, om1, lt1, t1, -, t2, t3, t4, t5, t6, -⟩ := take_lock hn ht hl hT
      have tl := tl_go (tp := tp) hi lo fu h10 (t1 5)
      obtain ⟨o', c', Y', a13, a14, h0, h1, h2, om', lt', fr', e1, e2, e3, e4, e5⟩ := ne_lock hn ht t3 t4 (t5.a10.trans h10) (t5.a11.trans h11) hM hH hK
      refine ⟨o', c', Y', a13, a14, (va_up (va_up (va_up H 15 h0) 16 h1) 17 h2), om', lt', fr', ?_, ?_, e3, t5.two.trans e4, t6.trans e5⟩
      · rw [fX5_readLine, tl, ob3_ss, if_neg (by decide), if_neg (by decide), if_neg (by decide), if_neg (by decide), if_neg (by decide), if_pos rfl, e1, ob8_ss]
        rfl
      · rw [fX10_readLine, w 0 (by decide), ob1_ss, if_pos i00, jn2, bg_n (w 1 (by decide)), ob3_ss, if_pos i00, bg_n (w 2 (by decide)), ob3_ss, if_pos i00, jn2, bg_n (w 3 (by decide)), ob3_ss, if_pos i00, jn2, bg_n (w 4 (by decide)), ob3_ss, if_pos i00, jn2, c13, hs, bg_go wi hl.1 hf t2, ob3_ss, if_neg i10, e2, ob3_ss]
  · have fu : fX5_isFull n 5 (H 5) (H 15) = some 1 := by
      rw [fX5_isFull, if_neg (by decide), if_neg (by decide), if_neg (by decide), if_neg (by decide), if_pos rfl, c12, if_neg (show ¬ nI N < 5 from nI_nlt (b := 5) (by omega) (by omega))]
    have hs : (if (5 : Int32) ≤ nI N then (0 : Int32) else 1) = 0 := if_pos (show nI 5 ≤ nI N from nI_le (by omega) (by omega))
    refine line_die hT (x := 5) (by decide) (tl_full hi lo fu hl.2.1) ?_
    rw [fX10_readLine, w 0 (by decide), ob1_ss, if_pos i00, jn2, bg_n (w 1 (by decide)), ob3_ss, if_pos i00, bg_n (w 2 (by decide)), ob3_ss, if_pos i00, jn2, bg_n (w 3 (by decide)), ob3_ss, if_pos i00, jn2, bg_n (w 4 (by decide)), ob3_ss, if_pos i00, jn2, c13, hs, bg_full wi hl.1, ob3_ss, if_neg i10, fX10_needLine, if_neg (dd 5), ob3_ss]
theorem lseen_lock {n L p G D T N S : Nat} {op : Bool} (hn : 1000 ≤ n) {tp mt : Nat → Int32} (ht : TAPE L tp mt) {H : Nat → Nat → Int32} {fr o om lt f13 f14 : Nat → Int32} {c : Int64} {Y : Nat → Int64} (hl : LIVE o om) (hT : TOKR L p o c om lt) (h10 : o 10 = (if op = true then 1 else 0)) (h11 : o 11 = nI (G + T + N)) (hM : NAM G T N Y f13 f14 fr) (hH : RH op G D T N S H fr) (lo : fX5_lineOfWord n o c = some 6) (w : ∀ j, j < 6 → fX10_isWord n j om lt = some 0) (wi : fX10_isWord n 6 om lt = some 1) : ∃ o' c' Y' a13 a14 H' om' lt' fr', fX5_readLine n o c tp Y f13 f14 (H 5) (H 6) (H 7) (H 8) (H 9) (H 10) (H 11) (H 12) (H 13) (H 14) (H 15) (H 16) (H 17) (H 18) (H 19) (H 20) = some (o', c', Y', a13, a14, H' 5, H' 6, H' 7, H' 8, H' 9, H' 10, H' 11, H' 12, H' 13, H' 14, H' 15, H' 16, H' 17, H' 18, H' 19, H' 20) ∧ fX10_readLine n om mt lt fr = some (om', lt', fr') ∧ RDS L p H' fr' o' c' om' lt' Y' a13 a14 ∧ FO2 o o' ∧ FM om om' := by
  have hi : ¬ (6 : Int32) = -1 ∧ ¬ (6 : Int32) = 0 := by decide
  have dd : ∀ x : Int32, ¬ upd (upd (upd om 13 1) 9 x) 10 (om 4) 13 = 0 := fun x => i10
  obtain ⟨c1, c2, c3, c4, c5, c6, c7, c8, c9, c10, c11, c12, c13, c14, c15, c16⟩ := hH.1
  by_cases hK : S < 6
  · have fu : fX5_isFull n 6 (H 5) (H 15) = some 0 := by
      rw [fX5_isFull, if_neg (by decide), if_neg (by decide), if_neg (by decide), if_neg (by decide), if_neg (by decide), if_pos rfl, c14, if_pos (show nI S < 6 from nI_lt (b := 6) hK (by omega))]
    have hs : (if (6 : Int32) ≤ nI S then (0 : Int32) else 1) = 1 := if_neg (show ¬ nI 6 ≤ nI S from nI_ge hK (by omega))
    cases op with
    | false =>
      refine line_die hT (x := 6) (by decide) (tl_lacks hi lo fu hl.2.1 h10) ?_
      rw [fX10_readLine, w 0 (by decide), ob1_ss, if_pos i00, jn2, bg_n (w 1 (by decide)), ob3_ss, if_pos i00, bg_n (w 2 (by decide)), ob3_ss, if_pos i00, jn2, bg_n (w 3 (by decide)), ob3_ss, if_pos i00, jn2, bg_n (w 4 (by decide)), ob3_ss, if_pos i00, jn2, bg_n (w 5 (by decide)), ob3_ss, if_pos i00, jn2, c15, hs, bg_lacks wi hl.1 (hH.2.1.2 rfl), ob3_ss, if_neg i10, fX10_seenLine, if_neg (dd 6), ob3_ss]
    | true =>
      have hf : ¬ fr 1 = 0 := by
        obtain ⟨k, k1, k2, k3⟩ := (hH.2.1.1 rfl).2.2.2.2.1
        rw [k3]
        exact fun e => absurd (nI_inj (b := 0) (by omega) (by omega) e) (by omega)
      obtain ⟨o1, y1, om1, lt1, t1, -, t2, t3, t4, t5, t6, -⟩ := take_lock hn ht hl hT
      have tl := tl_go (tp := tp) hi lo fu h10 (t1 6)
      obtain ⟨o', c', h0, h1, h2, h3, om', lt', fr', e1, e2, e3, e4, e5⟩ := si_lock hn ht t3 t4 (t5.a10.trans h10) (t5.a11.trans h11) hM hH hK (x := 1) (y := 0) (Or.inl ⟨rfl, rfl⟩)
      refine ⟨o', c', Y, f13, f14, (va_up (va_up (va_up (va_up H 15 h0) 18 h1) 19 h2) 20 h3), om', lt', fr', ?_, ?_, e3, t5.two.trans e4, t6.trans e5⟩
      · rw [fX5_readLine, tl, ob3_ss, if_neg (by decide), if_neg (by decide), if_neg (by decide), if_neg (by decide), if_neg (by decide), if_neg (by decide), if_pos rfl, e1, ob6_ss]
        rfl
      · rw [fX10_readLine, w 0 (by decide), ob1_ss, if_pos i00, jn2, bg_n (w 1 (by decide)), ob3_ss, if_pos i00, bg_n (w 2 (by decide)), ob3_ss, if_pos i00, jn2, bg_n (w 3 (by decide)), ob3_ss, if_pos i00, jn2, bg_n (w 4 (by decide)), ob3_ss, if_pos i00, jn2, bg_n (w 5 (by decide)), ob3_ss, if_pos i00, jn2, c15, hs, bg_go wi hl.1 hf t2, ob3_ss, if_neg i10, e2, ob3_ss]
  · have fu : fX5_isFull n 6 (H 5) (H 15) = some 1 := by
      rw [fX5_isFull, if_neg (by decide), if_neg (by decide), if_neg (by decide), if_neg (by decide), if_neg (by decide), if_pos rfl, c14, if_neg (show ¬ nI S < 6 from nI_nlt (b := 6) (by omega) (by omega))]
    have hs : (if (6 : Int32) ≤ nI S then (0 : Int32) else 1) = 0 := if_pos (show nI 6 ≤ nI S from nI_le (by omega) (by omega))
    refine line_die hT (x := 5) (by decide) (tl_full hi lo fu hl.2.1) ?_
    rw [fX10_readLine, w 0 (by decide), ob1_ss, if_pos i00, jn2, bg_n (w 1 (by decide)), ob3_ss, if_pos i00, bg_n (w 2 (by decide)), ob3_ss, if_pos i00, jn2, bg_n (w 3 (by decide)), ob3_ss, if_pos i00, jn2, bg_n (w 4 (by decide)), ob3_ss, if_pos i00, jn2, bg_n (w 5 (by decide)), ob3_ss, if_pos i00, jn2, c15, hs, bg_full wi hl.1, ob3_ss, if_neg i10, fX10_seenLine, if_neg (dd 5), ob3_ss]
theorem lgone_lock {n L p G D T N S : Nat} {op : Bool} (hn : 1000 ≤ n) {tp mt : Nat → Int32} (ht : TAPE L tp mt) {H : Nat → Nat → Int32} {fr o om lt f13 f14 : Nat → Int32} {c : Int64} {Y : Nat → Int64} (hl : LIVE o om) (hT : TOKR L p o c om lt) (h10 : o 10 = (if op = true then 1 else 0)) (h11 : o 11 = nI (G + T + N)) (hM : NAM G T N Y f13 f14 fr) (hH : RH op G D T N S H fr) (lo : fX5_lineOfWord n o c = some 7) (w : ∀ j, j < 7 → fX10_isWord n j om lt = some 0) (wi : fX10_isWord n 7 om lt = some 1) : ∃ o' c' Y' a13 a14 H' om' lt' fr', fX5_readLine n o c tp Y f13 f14 (H 5) (H 6) (H 7) (H 8) (H 9) (H 10) (H 11) (H 12) (H 13) (H 14) (H 15) (H 16) (H 17) (H 18) (H 19) (H 20) = some (o', c', Y', a13, a14, H' 5, H' 6, H' 7, H' 8, H' 9, H' 10, H' 11, H' 12, H' 13, H' 14, H' 15, H' 16, H' 17, H' 18, H' 19, H' 20) ∧ fX10_readLine n om mt lt fr = some (om', lt', fr') ∧ RDS L p H' fr' o' c' om' lt' Y' a13 a14 ∧ FO2 o o' ∧ FM om om' := by
  have hi : ¬ (7 : Int32) = -1 ∧ ¬ (7 : Int32) = 0 := by decide
  have dd : ∀ x : Int32, ¬ upd (upd (upd om 13 1) 9 x) 10 (om 4) 13 = 0 := fun x => i10
  obtain ⟨c1, c2, c3, c4, c5, c6, c7, c8, c9, c10, c11, c12, c13, c14, c15, c16⟩ := hH.1
  by_cases hK : S < 6
  · have fu : fX5_isFull n 7 (H 5) (H 15) = some 0 := by
      rw [fX5_isFull, if_neg (by decide), if_neg (by decide), if_neg (by decide), if_neg (by decide), if_neg (by decide), if_neg (by decide), if_pos rfl, c14, if_pos (show nI S < 6 from nI_lt (b := 6) hK (by omega))]
    have hs : (if (6 : Int32) ≤ nI S then (0 : Int32) else 1) = 1 := if_neg (show ¬ nI 6 ≤ nI S from nI_ge hK (by omega))
    cases op with
    | false =>
      refine line_die hT (x := 6) (by decide) (tl_lacks hi lo fu hl.2.1 h10) ?_
      rw [fX10_readLine, w 0 (by decide), ob1_ss, if_pos i00, jn2, bg_n (w 1 (by decide)), ob3_ss, if_pos i00, bg_n (w 2 (by decide)), ob3_ss, if_pos i00, jn2, bg_n (w 3 (by decide)), ob3_ss, if_pos i00, jn2, bg_n (w 4 (by decide)), ob3_ss, if_pos i00, jn2, bg_n (w 5 (by decide)), ob3_ss, if_pos i00, jn2, bg_n (w 6 (by decide)), ob3_ss, if_pos i00, jn2, c15, hs, bg_lacks wi hl.1 (hH.2.1.2 rfl), ob3_ss, if_neg i10, fX10_seenLine, if_neg (dd 6), ob3_ss]
    | true =>
      have hf : ¬ fr 1 = 0 := by
        obtain ⟨k, k1, k2, k3⟩ := (hH.2.1.1 rfl).2.2.2.2.1
        rw [k3]
        exact fun e => absurd (nI_inj (b := 0) (by omega) (by omega) e) (by omega)
      obtain ⟨o1, y1, om1, lt1, t1, -, t2, t3, t4, t5, t6, -⟩ := take_lock hn ht hl hT
      have tl := tl_go (tp := tp) hi lo fu h10 (t1 7)
      obtain ⟨o', c', h0, h1, h2, h3, om', lt', fr', e1, e2, e3, e4, e5⟩ := si_lock hn ht t3 t4 (t5.a10.trans h10) (t5.a11.trans h11) hM hH hK (x := 0) (y := 1) (Or.inr ⟨rfl, rfl⟩)
      refine ⟨o', c', Y, f13, f14, (va_up (va_up (va_up (va_up H 15 h0) 18 h1) 19 h2) 20 h3), om', lt', fr', ?_, ?_, e3, t5.two.trans e4, t6.trans e5⟩
      · rw [fX5_readLine, tl, ob3_ss, if_neg (by decide), if_neg (by decide), if_neg (by decide), if_neg (by decide), if_neg (by decide), if_neg (by decide), if_neg (by decide), if_pos rfl, e1, ob6_ss]
        rfl
      · rw [fX10_readLine, w 0 (by decide), ob1_ss, if_pos i00, jn2, bg_n (w 1 (by decide)), ob3_ss, if_pos i00, bg_n (w 2 (by decide)), ob3_ss, if_pos i00, jn2, bg_n (w 3 (by decide)), ob3_ss, if_pos i00, jn2, bg_n (w 4 (by decide)), ob3_ss, if_pos i00, jn2, bg_n (w 5 (by decide)), ob3_ss, if_pos i00, jn2, bg_n (w 6 (by decide)), ob3_ss, if_pos i00, jn2, c15, hs, bg_go wi hl.1 hf t2, ob3_ss, if_neg i10, e2, ob3_ss]
  · have fu : fX5_isFull n 7 (H 5) (H 15) = some 1 := by
      rw [fX5_isFull, if_neg (by decide), if_neg (by decide), if_neg (by decide), if_neg (by decide), if_neg (by decide), if_neg (by decide), if_pos rfl, c14, if_neg (show ¬ nI S < 6 from nI_nlt (b := 6) (by omega) (by omega))]
    have hs : (if (6 : Int32) ≤ nI S then (0 : Int32) else 1) = 0 := if_pos (show nI 6 ≤ nI S from nI_le (by omega) (by omega))
    refine line_die hT (x := 5) (by decide) (tl_full hi lo fu hl.2.1) ?_
    rw [fX10_readLine, w 0 (by decide), ob1_ss, if_pos i00, jn2, bg_n (w 1 (by decide)), ob3_ss, if_pos i00, bg_n (w 2 (by decide)), ob3_ss, if_pos i00, jn2, bg_n (w 3 (by decide)), ob3_ss, if_pos i00, jn2, bg_n (w 4 (by decide)), ob3_ss, if_pos i00, jn2, bg_n (w 5 (by decide)), ob3_ss, if_pos i00, jn2, bg_n (w 6 (by decide)), ob3_ss, if_pos i00, jn2, c15, hs, bg_full wi hl.1, ob3_ss, if_neg i10, fX10_seenLine, if_neg (dd 5), ob3_ss]
theorem line_lock {n L p G D T N S : Nat} {op : Bool} (hn : 1000 ≤ n) {tp mt : Nat → Int32} (ht : TAPE L tp mt) {H : Nat → Nat → Int32} {fr o om lt f13 f14 : Nat → Int32} {c : Int64} {Y : Nat → Int64} (hl : LIVE o om) (hT : TOKR L p o c om lt) (h10 : o 10 = (if op = true then 1 else 0)) (h11 : o 11 = nI (G + T + N)) (hM : NAM G T N Y f13 f14 fr) (hH : RH op G D T N S H fr) : ∃ o' c' Y' a13 a14 H' om' lt' fr', fX5_readLine n o c tp Y f13 f14 (H 5) (H 6) (H 7) (H 8) (H 9) (H 10) (H 11) (H 12) (H 13) (H 14) (H 15) (H 16) (H 17) (H 18) (H 19) (H 20) = some (o', c', Y', a13, a14, H' 5, H' 6, H' 7, H' 8, H' 9, H' 10, H' 11, H' 12, H' 13, H' 14, H' 15, H' 16, H' 17, H' 18, H' 19, H' 20) ∧ fX10_readLine n om mt lt fr = some (om', lt', fr') ∧ RDS L p H' fr' o' c' om' lt' Y' a13 a14 ∧ FO2 o o' ∧ FM om om' := by
  have bad : fX5_lineOfWord n o c = some (-1) → (∀ j, j < 8 → fX10_isWord n j om lt = some 0) → ∃ o' c' Y' a13 a14 H' om' lt' fr', fX5_readLine n o c tp Y f13 f14 (H 5) (H 6) (H 7) (H 8) (H 9) (H 10) (H 11) (H 12) (H 13) (H 14) (H 15) (H 16) (H 17) (H 18) (H 19) (H 20) = some (o', c', Y', a13, a14, H' 5, H' 6, H' 7, H' 8, H' 9, H' 10, H' 11, H' 12, H' 13, H' 14, H' 15, H' 16, H' 17, H' 18, H' 19, H' 20) ∧ fX10_readLine n om mt lt fr = some (om', lt', fr') ∧ RDS L p H' fr' o' c' om' lt' Y' a13 a14 ∧ FO2 o o' ∧ FM om om' := fun lo w => by
    refine line_die hT (x := 1) (by decide) ?_ ?_
    · rw [fX5_takeLine, lo, ob1_ss, if_pos rfl, fail_l hl.2.1, ob3_ss]
    · rw [fX10_readLine, w 0 (by decide), ob1_ss, if_pos i00, jn2, bg_n (w 1 (by decide)), ob3_ss, if_pos i00, bg_n (w 2 (by decide)), ob3_ss, if_pos i00, jn2, bg_n (w 3 (by decide)), ob3_ss, if_pos i00, jn2, bg_n (w 4 (by decide)), ob3_ss, if_pos i00, jn2, bg_n (w 5 (by decide)), ob3_ss, if_pos i00, jn2, bg_n (w 6 (by decide)), ob3_ss, if_pos i00, jn2, bg_n (w 7 (by decide)), ob3_ss, if_pos i00, wrong_l hl.1, ob1_ss]
  rcases hT.word with ⟨h5, h6, z, z1, z2, z3, z4, z5⟩ | ⟨h5, h6⟩
  · have iw : ∀ i, i < 22 → fX10_isWord n i om lt = some (if PKf lt 0 z = Wc i then 1 else 0) := fun i hi => isWordS (by omega) hi z2 hl.1 h6 z3 z4
    have hk : fX5_lineOfWord n o c = some (lw (PKf lt 0 z)) := by rw [z5]; exact lwS (PKf.lt64 z4 z2) h5
    by_cases p0 : PKf lt 0 z = Wc 0
    · have lo : fX5_lineOfWord n o c = some 0 := by rw [hk, lw, if_pos p0]
      have w0 : fX10_isWord n 0 om lt = some 1 := by rw [iw 0 (by decide), if_pos p0]
      cases op with
      | false =>
        obtain ⟨rfl, rfl, rfl, rfl, rfl⟩ := hH.2.2.2.2.2.2.2.2 rfl
        obtain ⟨o1, y1, tk, o', c', h5', om', lt', fr', e1, e2, e3, e4, e5⟩ := ev_lock hn ht hl hT h11 hM hH
        refine ⟨o', c', Y, f13, f14, va_up H 5 h5', om', lt', fr', ?_, ?_, e3, e4, e5⟩
        · have tl : fX5_takeLine n o c tp (H 5) (H 15) = some (0, o1, y1) := by
            rw [fX5_takeLine, lo, ob1_ss, if_neg (by decide)]
            dsimp only [jn]
            rw [if_pos rfl, if_pos (show o 10 = 0 from h10), fX5_isFull, if_neg (by decide), if_neg (by decide), if_neg (by decide), if_neg (by decide), if_neg (by decide), if_neg (by decide), if_neg (by decide), ob1_ss, if_pos i00, if_pos rfl, tk, ob3_ss]
          rw [fX5_readLine, tl, ob3_ss, if_pos rfl, e1, ob3_ss]
          rfl
        · rw [fX10_readLine, w0, ob1_ss, if_neg i10, e2, ob3_ss]
      | true =>
        refine line_die hT (x := 3) (by decide) ?_ ?_
        · rw [fX5_takeLine, lo, ob1_ss, if_neg (by decide)]
          dsimp only [jn]
          rw [if_pos rfl, if_neg (by rw [h10]; decide), fail_l hl.2.1, ob3_ss]
        · obtain ⟨k, k1, k2, k3⟩ := (hH.2.1.1 rfl).2.2.2.2.1
          rw [fX10_readLine, w0, ob1_ss, if_neg i10, fX10_eveningLine]
          dsimp only [jn]
          rw [k3, if_neg (show ¬ nI k ≤ 0 from nI_ge (a := 0) (by omega) (by omega)), wrong_l hl.1, ob1_ss, if_neg (show ¬ upd (upd (upd om 13 1) 9 3) 10 (om 4) 13 = 0 from i10), ob3_ss]
    by_cases p1 : PKf lt 0 z = Wc 1
    · have lo : fX5_lineOfWord n o c = some 1 := by rw [hk, lw, if_neg p0, if_pos p1]
      have ww : ∀ j, j < 1 → fX10_isWord n j om lt = some 0 := fun j hj => by
        rw [iw j (by omega), if_neg]
        rcases (by omega : j = 0) with rfl
        · exact p0
      exact lguest_lock hn ht hl hT h10 h11 hM hH lo ww (by rw [iw 1 (by decide), if_pos p1])
    by_cases p2 : PKf lt 0 z = Wc 2
    · have lo : fX5_lineOfWord n o c = some 2 := by rw [hk, lw, if_neg p0, if_neg p1, if_pos p2]
      have ww : ∀ j, j < 2 → fX10_isWord n j om lt = some 0 := fun j hj => by
        rw [iw j (by omega), if_neg]
        rcases (by omega : j = 0 ∨ j = 1) with rfl | rfl
        · exact p0
        · exact p1
      exact lpair_lock hn ht hl hT h10 h11 hM hH lo ww (by rw [iw 2 (by decide), if_pos p2])
    by_cases p3 : PKf lt 0 z = Wc 3
    · have lo : fX5_lineOfWord n o c = some 3 := by rw [hk, lw, if_neg p0, if_neg p1, if_neg p2, if_pos p3]
      have ww : ∀ j, j < 3 → fX10_isWord n j om lt = some 0 := fun j hj => by
        rw [iw j (by omega), if_neg]
        rcases (by omega : j = 0 ∨ j = 1 ∨ j = 2) with rfl | rfl | rfl
        · exact p0
        · exact p1
        · exact p2
      exact ldraws_lock hn ht hl hT h10 h11 hM hH lo ww (by rw [iw 3 (by decide), if_pos p3])
    by_cases p4 : PKf lt 0 z = Wc 4
    · have lo : fX5_lineOfWord n o c = some 4 := by rw [hk, lw, if_neg p0, if_neg p1, if_neg p2, if_neg p3, if_pos p4]
      have ww : ∀ j, j < 4 → fX10_isWord n j om lt = some 0 := fun j hj => by
        rw [iw j (by omega), if_neg]
        rcases (by omega : j = 0 ∨ j = 1 ∨ j = 2 ∨ j = 3) with rfl | rfl | rfl | rfl
        · exact p0
        · exact p1
        · exact p2
        · exact p3
      exact ltale_lock hn ht hl hT h10 h11 hM hH lo ww (by rw [iw 4 (by decide), if_pos p4])
    by_cases p5 : PKf lt 0 z = Wc 5
    · have lo : fX5_lineOfWord n o c = some 5 := by rw [hk, lw, if_neg p0, if_neg p1, if_neg p2, if_neg p3, if_neg p4, if_pos p5]
      have ww : ∀ j, j < 5 → fX10_isWord n j om lt = some 0 := fun j hj => by
        rw [iw j (by omega), if_neg]
        rcases (by omega : j = 0 ∨ j = 1 ∨ j = 2 ∨ j = 3 ∨ j = 4) with rfl | rfl | rfl | rfl | rfl
        · exact p0
        · exact p1
        · exact p2
        · exact p3
        · exact p4
      exact lneed_lock hn ht hl hT h10 h11 hM hH lo ww (by rw [iw 5 (by decide), if_pos p5])
    by_cases p6 : PKf lt 0 z = Wc 6
    · have lo : fX5_lineOfWord n o c = some 6 := by rw [hk, lw, if_neg p0, if_neg p1, if_neg p2, if_neg p3, if_neg p4, if_neg p5, if_pos p6]
      have ww : ∀ j, j < 6 → fX10_isWord n j om lt = some 0 := fun j hj => by
        rw [iw j (by omega), if_neg]
        rcases (by omega : j = 0 ∨ j = 1 ∨ j = 2 ∨ j = 3 ∨ j = 4 ∨ j = 5) with rfl | rfl | rfl | rfl | rfl | rfl
        · exact p0
        · exact p1
        · exact p2
        · exact p3
        · exact p4
        · exact p5
      exact lseen_lock hn ht hl hT h10 h11 hM hH lo ww (by rw [iw 6 (by decide), if_pos p6])
    by_cases p7 : PKf lt 0 z = Wc 7
    · have lo : fX5_lineOfWord n o c = some 7 := by rw [hk, lw, if_neg p0, if_neg p1, if_neg p2, if_neg p3, if_neg p4, if_neg p5, if_neg p6, if_pos p7]
      have ww : ∀ j, j < 7 → fX10_isWord n j om lt = some 0 := fun j hj => by
        rw [iw j (by omega), if_neg]
        rcases (by omega : j = 0 ∨ j = 1 ∨ j = 2 ∨ j = 3 ∨ j = 4 ∨ j = 5 ∨ j = 6) with rfl | rfl | rfl | rfl | rfl | rfl | rfl
        · exact p0
        · exact p1
        · exact p2
        · exact p3
        · exact p4
        · exact p5
        · exact p6
      exact lgone_lock hn ht hl hT h10 h11 hM hH lo ww (by rw [iw 7 (by decide), if_pos p7])
    refine bad (by rw [hk, lw, if_neg p0, if_neg p1, if_neg p2, if_neg p3, if_neg p4, if_neg p5, if_neg p6, if_neg p7]) (fun j hj => ?_)
    rw [iw j (by omega), if_neg]
    rcases (by omega : j = 0 ∨ j = 1 ∨ j = 2 ∨ j = 3 ∨ j = 4 ∨ j = 5 ∨ j = 6 ∨ j = 7) with rfl | rfl | rfl | rfl | rfl | rfl | rfl | rfl
    · exact p0
    · exact p1
    · exact p2
    · exact p3
    · exact p4
    · exact p5
    · exact p6
    · exact p7
  · exact bad (lw_n h5) (fun j _ => isWord_n h6)
