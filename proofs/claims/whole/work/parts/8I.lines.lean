/-! pairs and draws, class and reference together -/
theorem single_d {n nm : Nat} (hn : 100 ≤ n) (hm : nm ≤ 16) {x : Int32} {o tp f13 f14 h5 h9 : Nat → Int32} {c : Int64} {Y : Nat → Int64} (h11 : o 11 = nI nm) (h : ¬ o 2 = 0) : fX5_takeSingle n x o c tp Y f13 f14 h5 h9 = some (-1, o, c) := by
  rw [fX5_takeSingle, known_d hn hm h11 h, ob3_ss, if_pos (by decide), taken_d h, ob3_ss]
theorem neg_m1 {a : Nat} (ha : a < 2 ^ 31) : ¬ nI a = (-1 : Int32) := fun e => nI_pos ha (by rw [e]; decide)
theorem pa_lock {n L p G D T N S : Nat} (hn : 1000 ≤ n) {tp mt : Nat → Int32} (ht : TAPE L tp mt) {H : Nat → Nat → Int32} {fr o om lt f13 f14 : Nat → Int32} {c : Int64} {Y : Nat → Int64} (hl : LIVE o om) (hT : TOKR L p o c om lt) (h10 : o 10 = 1) (h11 : o 11 = nI (G + T + N)) (hM : NAM G T N Y f13 f14 fr) (hH : RH true G D T N S H fr) :
    ∃ o' c' h5 h9 om' lt' fr', fX5_readPair n o c tp Y f13 f14 (H 5) (H 9) = some (o', c', h5, h9) ∧ fX10_pairLine n om mt lt fr = some (om', lt', fr') ∧ RDS L p (va_up (va_up H 5 h5) 9 h9) fr' o' c' om' lt' Y f13 f14 ∧ FO2 o o' ∧ FM om om' := by
  obtain ⟨⟨c1, c2, c3, c4, c5, c6, c7, c8, c9, c10, c11, c12, c13, c14, c15, c16⟩, hE, hg, hp, hw, htl, hnd, hsi, -⟩ := hH
  have hb : G + T + N ≤ 16 := by omega
  -- a first single that failed
  have bad1 : ∀ o1 y1 om1, fX5_takeSingle n (-1) o c tp Y f13 f14 (H 5) (H 9) = some (-1, o1, y1) → DEAD o1 om1 → FO o o1 → FM om om1 → fX10_pairLine n om mt lt fr = some (om1, lt, fr) →
      ∃ o' c' h5 h9 om' lt' fr', fX5_readPair n o c tp Y f13 f14 (H 5) (H 9) = some (o', c', h5, h9) ∧ fX10_pairLine n om mt lt fr = some (om', lt', fr') ∧ RDS L p (va_up (va_up H 5 h5) 9 h9) fr' o' c' om' lt' Y f13 f14 ∧ FO2 o o' ∧ FM om om' := fun o1 y1 om1 e1 hd e2 e3 e4 =>
    ⟨o1, y1, H 5, H 9, om1, lt, fr, by rw [fX5_readPair, e1, ob3_ss, single_d (by omega) hb (e2.a11.trans h11) hd.2.1, ob3_ss, if_pos (by decide)], e4, Or.inr hd, e2.two, e3⟩
  obtain ⟨v, v2, o1, om1, e1, e2, e3, e4, ⟨rfl, rfl, -, -, a, a1, a2, a3⟩ | ⟨hd, e5⟩⟩ := known_lock hn hM h11 (Or.inl ⟨hl, hT⟩)
  · subst a2 a3
    have r13 : ∀ K : (Nat → Int32) → Option ((Nat → Int32) × (Nat → Int32) × (Nat → Int32)), (if om1 13 = 0 then K om1 else some (om1, lt, fr)) = K om1 := fun K => if_pos hl.1
    rcases hp.1 a a1 with ⟨m1, m2⟩ | ⟨j, j1, m1, m2⟩
    · -- free: taken
      obtain ⟨o2, y2, om2, lt2, t1, -, t2, t3, t4, t5, t6, -⟩ := take_lock hn ht hl hT
      have s1 : fX5_takeSingle n (-1) o1 c tp Y f13 f14 (H 5) (H 9) = some (nI a, o2, y2) := by
        rw [fX5_takeSingle, e1, ob3_ss, if_neg (nI_pos (by omega)), c6, if_neg (nI_ge (by omega) (by omega)), if_neg (neg_m1 (by omega)), if_neg (ckI (by omega) (by omega)), clI (by omega), m1, if_pos (by decide), t1, ob3_ss]
      have h11' : o2 11 = nI (G + T + N) := t5.a11.trans h11
      obtain ⟨v, v2, o3, om3, g1, g2, g3, g4, g5⟩ := known_lock hn hM h11' (Or.inl ⟨t3, t4⟩)
      -- the reference up to the second
      have rf : fX10_pairLine n om1 mt lt fr = (jn (fun o_t_99 => if (o_t_99 13) = 0 then ob2 (fX10_next n o_t_99 mt lt2) (fun u_13 u_14 => if (((9 + (4 * nI a)) + 3) : Int32) < 0 ∨ 266 ≤ (((9 + (4 * nI a)) + 3 : Int32)).toNatClampNeg then none else if ((9 + (4 * v2)) + 3) < 0 ∨ 266 ≤ (((9 + (4 * v2)) + 3)).toNatClampNeg then none else some (u_13, u_14, (upd (upd (upd fr (((9 + (4 * nI a)) + 3 : Int32)).toNatClampNeg (v2 + 1)) (((9 + (4 * v2)) + 3)).toNatClampNeg (nI a + 1)) 4 (((upd (upd fr (((9 + (4 * nI a)) + 3 : Int32)).toNatClampNeg (v2 + 1)) (((9 + (4 * v2)) + 3)).toNatClampNeg (nI a + 1)) 4) + 1)))) else some (o_t_99, lt2, fr)) (fun J99 => if (om3 13) = 0 then if nI a = v2 then ob1 (fX10_wrong n 3 (om3 4) om3) (fun u_20 => J99 u_20) else if ((9 + (4 * v2)) + 3) < 0 ∨ 266 ≤ (((9 + (4 * v2)) + 3)).toNatClampNeg then none else if (fr (((9 + (4 * v2)) + 3)).toNatClampNeg) ≤ 0 then J99 om3 else ob1 (fX10_wrong n 3 (om3 4) om3) (fun u_24 => J99 u_24) else J99 om3)) := by
        rw [fX10_pairLine, if_pos hl.1, e2, ob2_ss]
        dsimp only [jn]
        rw [if_pos hl.1, ix9a, ix9d, if_neg (ckI (by omega) (by omega)), clI (by omega), m2, if_pos (Int32.le_refl _), if_pos hl.1, t2, ob2_ss, g2, ob2_ss]
      dsimp only [jn] at rf
      have bad2 : ∀ od y4 omd, fX5_takeSingle n (nI a) o2 y2 tp Y f13 f14 (H 5) (H 9) = some (-1, od, y4) → DEAD od omd → FO o2 od → FM om2 omd → fX10_pairLine n om1 mt lt fr = some (omd, lt2, fr) →
          ∃ o' c' h5 h9 om' lt' fr', fX5_readPair n o1 c tp Y f13 f14 (H 5) (H 9) = some (o', c', h5, h9) ∧ fX10_pairLine n om1 mt lt fr = some (om', lt', fr') ∧ RDS L p (va_up (va_up H 5 h5) 9 h9) fr' o' c' om' lt' Y f13 f14 ∧ FO2 o1 o' ∧ FM om1 om' := fun od y4 omd x1 hd x2 x3 x4 =>
        ⟨od, y4, H 5, H 9, omd, lt2, fr, by rw [fX5_readPair, s1, ob3_ss, x1, ob3_ss, if_neg (nI_pos (by omega)), c6, if_neg (nI_ge (by omega) (by omega)), if_pos (by decide)], x4, Or.inr hd, (t5.trans x2).two, t6.trans x3⟩
      rcases g5 with ⟨rfl, rfl, -, -, b, b1, b2, b3⟩ | ⟨hd, g6⟩
      · subst b2 b3
        rw [if_pos t3.1] at rf
        obtain ⟨d1, d2, d3⟩ := die (x := 3) (by decide) t4.at
        have dd : ¬ upd (upd o3 2 3) 3 (o3 6) 2 = 0 := d1.2.1
        by_cases hab : a = b
        · subst hab
          rw [if_pos rfl, wrong_l t3.1, ob1_ss, if_neg d1.n] at rf
          exact bad2 _ _ _ (by rw [fX5_takeSingle, g1, ob3_ss, if_neg (nI_pos (by omega)), c6, if_neg (nI_ge (by omega) (by omega)), if_pos rfl, fail_l t3.2.1, ob3_ss, taken_d dd, ob3_ss]) d1 d2 d3 rf
        · have hne : ¬ nI b = nI a := fun e => hab (nI_inj (by omega) (by omega) e).symm
          have hne' : ¬ nI a = nI b := fun e => hab (nI_inj (by omega) (by omega) e)
          rw [if_neg hne', ix9a, ix9a, ix9d, ix9d, if_neg (ckI (by omega) (by omega)), clI (by omega), clI (by omega)] at rf
          rcases hp.1 b b1 with ⟨n1, n2⟩ | ⟨j, j1, n1, n2⟩
          · obtain ⟨o4, y4, om4, lt4, u1, -, u2, u3, u4, u5, u6, -⟩ := take_lock hn ht t3 t4
            rw [n2, if_pos (Int32.le_refl _), if_pos t3.1, u2, ob2_ss, if_neg (ckK (by omega) (by omega)), if_neg (ckK (by omega) (by omega)), sI, sI] at rf
            have s2 : fX5_takeSingle n (nI a) o3 y2 tp Y f13 f14 (H 5) (H 9) = some (nI b, o4, y4) := by
              rw [fX5_takeSingle, g1, ob3_ss, if_neg (nI_pos (by omega)), c6, if_neg (nI_ge (by omega) (by omega)), if_neg hne, if_neg (ckI (by omega) (by omega)), clI (by omega), n1, if_pos (by decide), u1, ob3_ss]
            have F4 : upd (upd (upd fr (9 + 4 * a + 3) (nI (b + 1))) (9 + 4 * b + 3) (nI (a + 1))) 4 ((upd (upd fr (9 + 4 * a + 3) (nI (b + 1))) (9 + 4 * b + 3) (nI (a + 1))) 4 + 1) 4 = fr 4 + 1 := by
              rw [upd_s, upd_n _ _ (by omega), upd_n _ _ (by omega)]
            have F : ∀ i, i ≠ 4 → i ≠ 9 + 4 * a + 3 → i ≠ 9 + 4 * b + 3 → upd (upd (upd fr (9 + 4 * a + 3) (nI (b + 1))) (9 + 4 * b + 3) (nI (a + 1))) 4 ((upd (upd fr (9 + 4 * a + 3) (nI (b + 1))) (9 + 4 * b + 3) (nI (a + 1))) 4 + 1) i = fr i := fun i h1 h2 h3 => by
              rw [upd_n _ _ h1, upd_n _ _ h3, upd_n _ _ h2]
            have Fa : upd (upd (upd fr (9 + 4 * a + 3) (nI (b + 1))) (9 + 4 * b + 3) (nI (a + 1))) 4 ((upd (upd fr (9 + 4 * a + 3) (nI (b + 1))) (9 + 4 * b + 3) (nI (a + 1))) 4 + 1) (9 + 4 * a + 3) = nI (b + 1) := by
              rw [upd_n _ _ (by omega), upd_n _ _ (by omega), upd_s]
            have Fb : upd (upd (upd fr (9 + 4 * a + 3) (nI (b + 1))) (9 + 4 * b + 3) (nI (a + 1))) 4 ((upd (upd fr (9 + 4 * a + 3) (nI (b + 1))) (9 + 4 * b + 3) (nI (a + 1))) 4 + 1) (9 + 4 * b + 3) = nI (a + 1) := by
              rw [upd_n _ _ (by omega), upd_s]
            generalize upd (upd (upd fr (9 + 4 * a + 3) (nI (b + 1))) (9 + 4 * b + 3) (nI (a + 1))) 4 ((upd (upd fr (9 + 4 * a + 3) (nI (b + 1))) (9 + 4 * b + 3) (nI (a + 1))) 4 + 1) = fr' at F4 F Fa Fb rf
            have f := t5.trans u5
            have ne2 : ∀ j, j < 7 → ¬ (-2 : Int32) = nI j := by decide +kernel
            refine ⟨o4, y4, upd (H 5) 8 (H 5 8 + 1), upd (upd (H 9) a (nI b)) b (nI a), om4, lt4, fr', ?_, rf, Or.inl ⟨u3, u4, true, G, D, T, N, S, f.a10.trans h10, f.a11.trans h11, hM.cg (fun i h1 h2 => F i (by omega) (by omega) (by omega)), ⟨c1, c2, c3, c4, c5, c6, (F 3 (by omega) (by omega) (by omega)).trans c7, c8, (F 5 (by omega) (by omega) (by omega)).trans c9, c10, (F 6 (by omega) (by omega) (by omega)).trans c11, c12, (F 7 (by omega) (by omega) (by omega)).trans c13, c14, (F 8 (by omega) (by omega) (by omega)).trans c15, (congrArg (· + 1) c16).trans F4.symm⟩, hE.cg rfl rfl rfl (fun i hi => F i (by omega) (by omega) (by omega)), hg.cg (fun _ _ => ⟨rfl, rfl, rfl⟩) (fun g hg j hj => F _ (by omega) (by omega) (by omega)), hp.pair c1 a1 b1 hab (fun j hj => by rw [m1]; exact ne2 j (by omega)) (fun j hj => by rw [n1]; exact ne2 j (by omega)) rfl Fa Fb (fun g hg h1 h2 => F _ (by omega) (by omega) (by omega)) rfl, hw.cg (fun _ _ => ⟨rfl, rfl, rfl⟩) (fun i h1 h2 => F i (by omega) (by omega) (by omega)), htl.cg c3 (fun _ _ => ⟨rfl, rfl⟩) (fun i h1 h2 => F i (by omega) (by omega) (by omega)), hnd.cg c4 (fun _ _ => ⟨rfl, rfl⟩) (fun i h1 h2 => F i (by omega) (by omega) (by omega)), hsi.cg c5 (fun _ _ => ⟨rfl, rfl, rfl⟩) (fun i h1 h2 => F i (by omega) (by omega) (by omega)), fun z => absurd z (by decide)⟩, f.two, t6.trans u6⟩
            rw [fX5_readPair, s1, ob3_ss, s2, ob3_ss, if_neg (nI_pos (by omega)), c6, if_neg (nI_ge (by omega) (by omega)), if_neg (nI_pos (by omega)), if_neg (nI_ge (by omega) (by omega)), if_neg (ckI (by omega) (by omega)), if_neg (ckI (by omega) (by omega)), clI (by omega), clI (by omega)]
          · rw [n2, if_neg (show ¬ nI (j + 1) ≤ 0 from nI_ge (a := 0) (by omega) (by omega)), wrong_l t3.1, ob1_ss, if_neg d1.n] at rf
            exact bad2 _ _ _ (by rw [fX5_takeSingle, g1, ob3_ss, if_neg (nI_pos (by omega)), c6, if_neg (nI_ge (by omega) (by omega)), if_neg hne, if_neg (ckI (by omega) (by omega)), clI (by omega), n1, if_neg (nI_pos (by omega)), fail_l t3.2.1, ob3_ss, taken_d dd, ob3_ss]) d1 d2 d3 rf
      · rw [if_neg hd.n, if_neg hd.n] at rf
        exact bad2 _ _ _ (by rw [fX5_takeSingle, g1, g6, ob3_ss, if_pos (by decide), taken_d hd.2.1, ob3_ss]) hd g3 g4 rf
    · -- mated: a fault
      obtain ⟨d1, d2, d3⟩ := die (x := 3) (by decide) hT.at
      have dd : ¬ upd (upd o1 2 3) 3 (o1 6) 2 = 0 := d1.2.1
      refine bad1 _ c _ ?_ d1 d2 d3 ?_
      · rw [fX5_takeSingle, e1, ob3_ss, if_neg (nI_pos (by omega)), c6, if_neg (nI_ge (by omega) (by omega)), if_neg (neg_m1 (by omega)), if_neg (ckI (by omega) (by omega)), clI (by omega), m1, if_neg (nI_pos (by omega)), fail_l hl.2.1, ob3_ss, taken_d dd, ob3_ss]
      · rw [fX10_pairLine, if_pos hl.1, e2, ob2_ss]
        dsimp only [jn]
        rw [if_pos hl.1, ix9a, ix9d, if_neg (ckI (by omega) (by omega)), clI (by omega), m2, if_neg (show ¬ nI (j + 1) ≤ 0 from nI_ge (a := 0) (by omega) (by omega)), wrong_l hl.1, ob1_ss, if_neg d1.n]
  · refine bad1 o1 c om1 ?_ hd e3 e4 ?_
    · rw [fX5_takeSingle, e1, e5, ob3_ss, if_pos (by decide), taken_d hd.2.1, ob3_ss]
    · rw [fX10_pairLine, if_pos hl.1, e2, ob2_ss]
      dsimp only [jn]
      rw [if_neg hd.n, if_neg hd.n]
theorem RH.hr {G D T N S : Nat} {H : Nat → Nat → Int32} {fr : Nat → Int32} (h : RH true G D T N S H fr) : HR G D (H 5) (H 6) (H 8) (H 9) (H 10) (H 11) (H 12) fr := by
  obtain ⟨⟨c1, c2, c3, c4, c5, c6, c7, c8, c9, c10, c11, c12, c13, c14, c15, c16⟩, ⟨e, -⟩, g, p, w, t, nd, si, -⟩ := h
  exact ⟨c1, c6, c7, (e rfl).2.2.1, fun x hx => (g x hx).1, fun x hx => (g x hx).2.2.1, p.1, c2, c8, w.1, fun a ha b hb hab => w.2.2.2 a (by omega) b (by omega) hab⟩
theorem ix37 (a b : Nat) : (((37 : Int32) + ((7 : Int32) * nI a)) + nI b) = nI (37 + 7 * a + b) := by
  rw [show (37 : Int32) = nI 37 from rfl, show (7 : Int32) = nI 7 from rfl, mulI, addI, addI]
theorem dr_lock {n L p G D T N S : Nat} (hn : 1000 ≤ n) {tp mt : Nat → Int32} (ht : TAPE L tp mt) {H : Nat → Nat → Int32} {fr o om lt f13 f14 : Nat → Int32} {c : Int64} {Y : Nat → Int64} (hl : LIVE o om) (hT : TOKR L p o c om lt) (h10 : o 10 = 1) (h11 : o 11 = nI (G + T + N)) (hM : NAM G T N Y f13 f14 fr) (hH : RH true G D T N S H fr) (hK : D < 8) :
    ∃ o' c' h5 h6 h7 h8 om' lt' fr', fX5_readDraws n o c tp Y f13 f14 (H 5) (H 10) (H 11) (H 12) = some (o', c', h5, h6, h7, h8) ∧ fX10_drawsLine n om mt lt fr = some (om', lt', fr') ∧ RDS L p (va_up (va_up (va_up (va_up H 5 h5) 10 h6) 11 h7) 12 h8) fr' o' c' om' lt' Y f13 f14 ∧ FO2 o o' ∧ FM om om' := by
  have hr := hH.hr
  obtain ⟨⟨c1, c2, c3, c4, c5, c6, c7, c8, c9, c10, c11, c12, c13, c14, c15, c16⟩, hE, hg, hp, hw, htl, hnd, hsi, -⟩ := hH
  have hb16 : G + T + N ≤ 16 := by omega
  have kc : ¬ ((nI D : Int32) < 0 ∨ 8 ≤ (nI D : Int32).toNatClampNeg) := ckI hK (by omega)
  obtain ⟨v, w, o1, om1, o2, y2, om2, lt2, e1, e2, -, e3, e4, e5, e6, e7, e8⟩ := passed_lock hn ht hM h11 (Or.inl ⟨hl, hT⟩)
  have h11' : o2 11 = nI (G + T + N) := e5.a11.trans h11
  obtain ⟨v3, w3, o3, om3, g1, g2, g3, g4, g5⟩ := known_lock hn hM h11' e4
  rcases g5 with ⟨rfl, rfl, t3, t4, b, b1, b2, b3⟩ | ⟨hd, g6⟩
  · obtain ⟨a, a1, a2, a3⟩ := e7 t3.1
    subst b2 b3 a2 a3
    obtain ⟨d1, d2, d3⟩ := die (x := 3) (by decide) t4.at
    have dd : ¬ upd (upd o3 2 3) 3 (o3 6) 2 = 0 := d1.2.1
    by_cases hab : a = b
    · subst hab
      refine ⟨_, y2, upd (H 5) 9 (nI D + 1), upd (H 10) (nI D).toNatClampNeg (nI a), upd (H 11) (nI D).toNatClampNeg (-1), upd (H 12) (nI D).toNatClampNeg (-1), _, lt2, fr, ?_, ?_, Or.inr d1, (e5.trans d2).two, e6.trans d3⟩
      · rw [fX5_readDraws, c8, e1, ob3_ss, e2, ob3_ss, g1, ob3_ss]
        dsimp only [jn]
        rw [if_neg (nI_pos (by omega)), if_pos rfl, fail_l t3.2.1, ob3_ss, if_neg kc, taken_d dd, ob3_ss, if_neg kc, amt_d dd, ob3_ss, if_neg kc]
      · rw [fX10_drawsLine, if_pos hl.1, e3, ob3_ss, g2, ob2_ss]
        dsimp only [jn]
        rw [if_pos t3.1, if_pos rfl, wrong_l t3.1, ob1_ss, if_neg d1.n]
    · have hne : ¬ nI b = nI a := fun e => hab (nI_inj (by omega) (by omega) e).symm
      have hne' : ¬ nI a = nI b := fun e => hab (nI_inj (by omega) (by omega) e)
      rcases line_spec (n := n) (by omega) hr hw.2.2.1 a1 b1 hab with ⟨d, q1, q2, q3, q4, q5⟩ | ⟨q1, q2, q3⟩
      · obtain ⟨k, k1, k2, k3⟩ := hw.2.1 d q1
        refine ⟨_, y2, upd (H 5) 9 (nI D + 1), upd (H 10) (nI D).toNatClampNeg (nI a), upd (H 11) (nI D).toNatClampNeg (-1), upd (H 12) (nI D).toNatClampNeg (-1), _, lt2, fr, ?_, ?_, Or.inr d1, (e5.trans d2).two, e6.trans d3⟩
        · rw [fX5_readDraws, c8, e1, ob3_ss, e2, ob3_ss, g1, ob3_ss]
          dsimp only [jn]
          rw [if_neg (nI_pos (by omega)), if_neg hne, q4, ob1_ss, if_neg (nI_pos (by omega)), fail_l t3.2.1, ob3_ss, if_neg kc, taken_d dd, ob3_ss, if_neg kc, amt_d dd, ob3_ss, if_neg kc]
        · rw [fX10_drawsLine, if_pos hl.1, e3, ob3_ss, g2, ob2_ss]
          dsimp only [jn]
          rw [if_pos t3.1, if_neg hne', ix37, if_neg (ckI (by omega) (by omega)), clI (by omega), q5, k3, if_neg (show ¬ nI k ≤ 0 from nI_ge (a := 0) (by omega) (by omega)), wrong_l t3.1, ob1_ss, if_neg d1.n]
      · obtain ⟨o4, y4, om4, lt4, u1, -, u2, u3, u4, u5, u6, -⟩ := take_lock hn ht t3 t4
        obtain ⟨v5, w5, o5, y5, om5, lt5, x1, x2, x3, x4, x5, x6⟩ := am17a hn ht (Or.inl ⟨u3, u4⟩)
        have f := (e5.trans u5).trans x4
        have cl : fX5_readDraws n o c tp Y f13 f14 (H 5) (H 10) (H 11) (H 12) = some (o5, y5, upd (H 5) 9 (nI (D + 1)), upd (H 10) D (nI a), upd (H 11) D (nI b), upd (H 12) D v5) := by
          rw [fX5_readDraws, c8, e1, ob3_ss, e2, ob3_ss, g1, ob3_ss]
          dsimp only [jn]
          rw [if_neg (nI_pos (by omega)), if_neg hne, q2, ob1_ss, if_pos (by decide), if_neg kc, u1, ob3_ss, if_neg kc, x1, ob3_ss, if_neg kc, clI (by omega), sI]
        have rf : fX10_drawsLine n om mt lt fr = some (om5, lt5, if om5 13 = 0 then upd (upd fr (37 + 7 * a + b) w5) 5 ((upd fr (37 + 7 * a + b) w5) 5 + 1) else fr) := by
          rw [fX10_drawsLine, if_pos hl.1, e3, ob3_ss, g2, ob2_ss]
          dsimp only [jn]
          rw [if_pos t3.1, if_neg hne', ix37, if_neg (ckI (by omega) (by omega)), clI (by omega), q3, if_pos (Int32.le_refl _), if_pos t3.1, u2, ob2_ss, x2, ob3_ss]
          by_cases q : om5 13 = 0
          · rw [if_pos q, if_pos q, if_neg (ckK (by omega) (by omega))]
          · rw [if_neg q, if_neg q]
        refine ⟨_, _, _, _, _, _, _, _, _, cl, rf, ?_, f.two, (e6.trans u6).trans x5⟩
        by_cases q : om5 13 = 0
        · rw [if_pos q]
          have q6 := x6 q
          obtain ⟨k, k1, k2, k3⟩ := q6.2.2
          have F5 : upd (upd fr (37 + 7 * a + b) w5) 5 ((upd fr (37 + 7 * a + b) w5) 5 + 1) 5 = nI (D + 1) := by
            rw [upd_s, upd_n _ _ (by omega), c9, sI]
          have F : ∀ i, i ≠ 5 → i ≠ 37 + 7 * a + b → upd (upd fr (37 + 7 * a + b) w5) 5 ((upd fr (37 + 7 * a + b) w5) 5 + 1) i = fr i := fun i h1 h2 => by
            rw [upd_n _ _ h1, upd_n _ _ h2]
          have Fa : upd (upd fr (37 + 7 * a + b) w5) 5 ((upd fr (37 + 7 * a + b) w5) 5 + 1) (37 + 7 * a + b) = w5 := by
            rw [upd_n _ _ (by omega), upd_s]
          generalize upd (upd fr (37 + 7 * a + b) w5) 5 ((upd fr (37 + 7 * a + b) w5) 5 + 1) = fr' at F5 F Fa ⊢
          exact Or.inl ⟨(x3.l q).1, (x3.l q).2, true, G, D + 1, T, N, S, f.a10.trans h10, f.a11.trans h11, hM.cg (fun i h1 h2 => F i (by omega) (by omega)), ⟨c1, by omega, c3, c4, c5, c6, (F 3 (by omega) (by omega)).trans c7, rfl, F5, c10, (F 6 (by omega) (by omega)).trans c11, c12, (F 7 (by omega) (by omega)).trans c13, c14, (F 8 (by omega) (by omega)).trans c15, c16.trans (F 4 (by omega) (by omega)).symm⟩, hE.cg rfl rfl rfl (fun i hi => F i (by omega) (by omega)), hg.cg (fun _ _ => ⟨rfl, rfl, rfl⟩) (fun g hg j hj => F _ (by omega) (by omega)), hp.cg c1 (fun _ _ => rfl) (fun g hg => F _ (by omega) (by omega)), hw.add c1 a1 b1 hab k1 k2 q1 (fun d hd => ⟨upd_n _ _ (by omega), upd_n _ _ (by omega), upd_n _ _ (by omega)⟩) ⟨upd_s _ _ _, upd_s _ _ _, (upd_s _ _ _).trans k3⟩ (Fa.trans (q6.2.1.symm.trans k3)) (fun i h1 h2 h3 => F i (by omega) h3), htl.cg c3 (fun _ _ => ⟨rfl, rfl⟩) (fun i h1 h2 => F i (by omega) (by omega)), hnd.cg c4 (fun _ _ => ⟨rfl, rfl⟩) (fun i h1 h2 => F i (by omega) (by omega)), hsi.cg c5 (fun _ _ => ⟨rfl, rfl, rfl⟩) (fun i h1 h2 => F i (by omega) (by omega)), fun z => absurd z (by decide)⟩
        · exact Or.inr (x3.d q)
  · subst g6
    refine ⟨_, y2, upd (H 5) 9 (nI D + 1), upd (H 10) (nI D).toNatClampNeg v, upd (H 11) (nI D).toNatClampNeg (-1), upd (H 12) (nI D).toNatClampNeg (-1), _, lt2, fr, ?_, ?_, Or.inr hd, (e5.trans g3).two, e6.trans g4⟩
    · rw [fX5_readDraws, c8, e1, ob3_ss, e2, ob3_ss, g1, ob3_ss]
      dsimp only [jn]
      rw [if_pos (by decide), if_neg kc, taken_d hd.2.1, ob3_ss, if_neg kc, amt_d hd.2.1, ob3_ss, if_neg kc]
    · rw [fX10_drawsLine, if_pos hl.1, e3, ob3_ss, g2, ob2_ss]
      dsimp only [jn]
      rw [if_neg hd.n, if_neg hd.n]
