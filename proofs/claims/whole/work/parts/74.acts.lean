/-! a tale is told; one is sent home; a cup is given -/
theorem upself {A : Type} (P : Nat → A) (k : Nat) : va_up P k (P k) = P := by
  funext j
  by_cases e : j = k
  · subst e; rw [up_s]
  · rw [up_n _ _ e]
theorem upself4 (P : Nat → Nat → Nat → Int32) : va_up (va_up (va_up (va_up P 0 (P 0)) 1 (P 1)) 2 (P 2)) 3 (P 3) = P := by rw [upself, upself, upself, upself]
theorem upself4b (P : Nat → Nat → Nat → Int32) : va_up (va_up (va_up (va_up P 4 (P 4)) 5 (P 5)) 6 (P 6)) 7 (P 7) = P := by rw [upself, upself, upself, upself]
theorem tiresS {n G t : Nat} (hn : 10 ≤ n) (hG : G ≤ 7) (ht : t < 4) {om r : Nat → Int32} (hr : r 3 = nI G) (st : Nat → Int32) : ∃ s', (∀ i, s' i = if i < G ∧ st (7 + i) = 0 then st i - r (86 + 2 * t + 1) else st i) ∧ fX10_tires n (nI t) om r st = some s' := by
  have l86 : (86 : Int32) = nI 86 := rfl
  have ix : (((86 : Int32) + ((2 : Int32) * nI t)) + (1 : Int32)) = nI (86 + 2 * t + 1) := by rw [l86, lz2, mulI, addI, sI]
  obtain ⟨s', h1, h2⟩ := tire_m (n := n) hG (r (86 + 2 * t + 1)) st (F := fX10_tires_L2 n (nI t) om r (fun f => some f)) (K := fun f => some f) (fun f x s => by rw [fX10_tires_L2, hr, ix, if_neg (ckI (k := 86 + 2 * t + 1) (by omega) (by omega)), clI (k := 86 + 2 * t + 1) (by omega)]) G 0 n st (by omega) (by omega) (fun i => by rw [if_neg (fun q => absurd q.1 (Nat.not_lt_zero i))])
  exact ⟨s', h1, by rw [fX10_tires]; exact h2⟩
theorem tell_hours {n G D T N S t h : Nat} {U : Int} (hn : 100 ≤ n) {X : Nat → Nat → Int32} {r : Nat → Int32} (hX : HX G D T N S X r) {po : Nat → Int32} (hpo : po 0 = 0) (ht : t < 4) (hh : h ≤ 3) (hrt : r (86 + 2 * t) = nI h) (K : Int32 → (Nat → Int32) → (Nat → Int32) → Option (Int32 × (Nat → Int32) × (Nat → Int32) × (Nat → Int32))) :
    ∀ (j k f1 f2 c L : Nat) (x : Int32) (o w la wl om st : Nat → Int32), k + j = h → j < f1 → j < f2 → c + j ≤ 1000 → 160 ≤ L → L + 20 * j ≤ 800000 → NR G o w la st → st 14 = nI c → (∀ g, g < G → bt (o 1) g = true → -(L : Int) ≤ (w g).toInt ∧ (w g).toInt ≤ U) →
      ∃ R o' w' la' wl' om' st', fX2_passAll_L6 n (nI h) (X 5) (X 6) (X 8) (X 9) (X 10) (X 11) (X 12) (fun x o w l v p => some (x, o, w, l, v, p)) f1 x (nI k) o w la wl po = some (R, o', w', la', wl', po) ∧ fX10_tell_L132 n (nI t) r K f2 x (nI k) om st = K R om' st' ∧ NR G o' w' la' st' ∧ st' 14 = nI (c + j) ∧ (∀ k, k ≠ 22 → om' k = om k) ∧ o' 2 = o 2 ∧ o' 3 = o 3 ∧ st' 16 = st 16 ∧ (∀ g, g < G → bt (o' 1) g = true → -((L + 20 * j : Nat) : Int) ≤ (w' g).toInt ∧ (w' g).toInt ≤ U) ∧ (0 < j → SET G D o' w' (X 6) (X 10) (X 11) (X 12)) := by
  have l86 : (86 : Int32) = nI 86 := rfl
  have ix : ((86 : Int32) + ((2 : Int32) * nI t)) = nI (86 + 2 * t) := by rw [l86, lz2, mulI, addI]
  intro j
  induction j with
  | zero =>
    intro k f1 f2 c L x o w la wl om st hk hf1 hf2 hcb hL hL2 hN hc hw
    obtain ⟨a, rfl⟩ : ∃ a, f1 = a + 1 := ⟨f1 - 1, by omega⟩
    obtain ⟨b, rfl⟩ : ∃ b, f2 = b + 1 := ⟨f2 - 1, by omega⟩
    exact ⟨x, o, w, la, wl, om, st, by rw [fX2_passAll_L6, if_pos (nI_le (by omega) (by omega))], by rw [fX10_tell_L132, ix, if_neg (ckI (by omega) (by omega)), clI (by omega), hrt, if_pos (nI_le (by omega) (by omega))], hN, hc, fun _ _ => rfl, rfl, rfl, rfl, hw, fun q => absurd q (Nat.lt_irrefl 0)⟩
  | succ j ih =>
    intro k f1 f2 c L x o w la wl om st hk hf1 hf2 hcb hL hL2 hN hc hw
    obtain ⟨a, rfl⟩ : ∃ a, f1 = a + 1 := ⟨f1 - 1, by omega⟩
    obtain ⟨b, rfl⟩ : ∃ b, f2 = b + 1 := ⟨f2 - 1, by omega⟩
    obtain ⟨H, o1, w1, la1, wl1, om1, st1, e1, e2, g1, g2, g3, g4, g5, g6, g7, g8⟩ := pass_bd hn hX hpo hN hc (by omega) hL (by omega) hw wl om
    rw [fX2_passAll_L6, if_neg (nI_ge (by omega) (by omega)), e1, ob6_ss, fX10_tell_L132, ix, if_neg (ckI (by omega) (by omega)), clI (by omega), hrt, if_neg (nI_ge (by omega) (by omega)), e2, ob3_ss, sI]
    obtain ⟨R, o', w', la', wl', om', st', t1, t2, t3, t4, t5, t6, t7, t8, t9, t10⟩ := ih (k + 1) a b (c + 1) (L + 20) (x ||| H) o1 w1 la1 wl1 om1 st1 (by omega) (by omega) (by omega) (by omega) (by omega) (by omega) g1 g2 g8
    refine ⟨R, o', w', la', wl', om', st', t1, t2, t3, by rw [t4]; exact congrArg nI (by omega), fun k hk => (t5 k hk).trans (g3 k hk), t6.trans g5, t7.trans g6, t8.trans g7, fun g hg hb => ?_, fun _ => ?_⟩
    · have := t9 g hg hb; omega
    · by_cases hj : 0 < j
      · exact t10 hj
      · have e : j = 0 := by omega
        subst e
        obtain ⟨a', rfl⟩ : ∃ a', a = a' + 1 := ⟨a - 1, by omega⟩
        rw [fX2_passAll_L6, if_pos (nI_le (by omega) (by omega))] at t1
        obtain ⟨-, z⟩ := Prod.mk.inj (Option.some.inj t1)
        obtain ⟨z1, z⟩ := Prod.mk.inj z
        obtain ⟨z2, -⟩ := Prod.mk.inj z
        rw [← z1, ← z2]; exact g4
theorem or_bits {x : Int32} {t T : Nat} (ht : t < T) (hT : T ≤ 4) (h : ∀ i, T ≤ i → i < 32 → bt x i = false) : ∀ i, T ≤ i → i < 32 → bt (x ||| ((1 : Int32) <<< (nI t &&& 31))) i = false := fun i h1 h2 => by
  rw [b_or, h i h1 h2, b_one t (by omega) i h2]
  simp; omega
theorem LED.tell {n G D T N S c t h : Nat} (hn : 100 ≤ n) {X : Nat → Nat → Int32} {r : Nat → Int32} (hX : HX G D T N S X r) {po : Nat → Int32} (hpo : po 0 = 0) {o w la st : Nat → Int32} (hL : LED G D T (X 6) (X 10) (X 11) (X 12) o w la st) (hc : st 14 = nI c) (ht : t < T) (h1 : 1 ≤ h) (h3 : h ≤ 3) (hrt : r (86 + 2 * t) = nI h) (hcb : c + h ≤ 99) (wl om und : Nat → Int32) :
    ∃ R o' w' la' wl' om' st' s1, fX2_narrate n (nI t) o w la wl (X 5) (X 6) (X 8) (X 9) (X 10) (X 11) (X 12) (X 13) (X 14) po = some (R, o', w', la', wl', po) ∧ fX10_tires n (nI t) om r (upd st 16 (st 16 ||| ((1 : Int32) <<< (nI t &&& 31)))) = some s1 ∧ fX10_tell_L132 n (nI t) r (fun a b c => some (a, b, c, und)) n 0 0 om s1 = some (R, om', st', und) ∧ LED G D T (X 6) (X 10) (X 11) (X 12) o' w' la' st' ∧ (∀ k, k ≠ 22 → om' k = om k) := by
  obtain ⟨hH, h1G, hT4, hN5, hS6, x50, x51, x58, x59, x513, r6, x150, r7, x153, r8, bc, bw, bg, bp, ew, bwt, bk, bs, inv, bdm, unq, etl, bth, btt, end_, bnh, esi, bsi⟩ := id hX
  obtain ⟨hN, hS, q3, hT, c', k, hc1, hk, hc2, hk2, hb⟩ := hL
  have e : c' = c := nI_inj (by omega) (by omega) (hc2.symm.trans hc)
  subst e
  have hG := hH.1
  obtain ⟨v, hv, ev⟩ := btt t ht
  have eT := etl t ht
  obtain ⟨w1, a1, a2⟩ := tireS (n := n) (o := upd o 3 (o 3 ||| ((1 : Int32) <<< (nI t &&& 31)))) (by omega) hG hH.2.1 (X 14 t) w
  obtain ⟨s1, b1, b2⟩ := tiresS (n := n) (t := t) (om := om) (by omega) hG (by omega) hH.2.2.1 (upd st 16 (st 16 ||| ((1 : Int32) <<< (nI t &&& 31))))
  have hN0 : NR G (upd o 3 (o 3 ||| ((1 : Int32) <<< (nI t &&& 31)))) w la (upd st 16 (st 16 ||| ((1 : Int32) <<< (nI t &&& 31)))) := hN.cg hG (upd_n _ _ (by decide)) (upd_n _ _ (by decide)) (upd_n _ _ (by decide)) (fun _ _ => rfl) (fun _ _ => rfl) (fun i hi => upd_n _ _ (by omega))
  have hN1 := hN0.tire hG (w' := w1) (st' := s1) (X 14 t) a1 (fun i => by rw [eT.2]; exact b1 i)
  have s14 : s1 14 = nI c' := by rw [b1 14, if_neg (fun q => absurd q.1 (by omega)), upd_n _ _ (by decide)]; exact hc
  have s16 : s1 16 = st 16 ||| ((1 : Int32) <<< (nI t &&& 31)) := by rw [b1 16, if_neg (fun q => absurd q.1 (by omega)), upd_s]
  obtain ⟨R, o', w', la', wl', om', st', t1, t2, t3, t4, t5, t6, t7, t8, t9, t10⟩ := tell_hours (U := 219 - 30 * (k : Int)) hn hX hpo (show t < 4 by omega) h3 hrt (fun a b c => some (a, b, c, und)) h 0 n n c' (160 + 50 * c' + 30) 0 (upd o 3 (o 3 ||| ((1 : Int32) <<< (nI t &&& 31)))) w1 la wl om s1 (by omega) (by omega) (by omega) (by omega) (by omega) (by omega) hN1 s14 (fun g hg hb' => by
    have hb0 : bt (o 1) g = true := hb'
    have := hb g hg hb0
    have es : (w g - nI v).toInt = (w g).toInt - (v : Int) := sub_small (by omega) (by omega)
    rw [a1 g, if_pos ⟨hg, hb'⟩, eT.2, ev, es]
    omega)
  refine ⟨R, o', w', la', wl', om', st', s1, ?_, b2, t2, ⟨t3, t10 (by omega), by rw [t7, t8, s16, upd_s, q3], ?_, c' + h, k, by omega, hk, t4, ?_, fun g hg hb' => ?_⟩, t5⟩
  · rw [fX2_narrate, if_neg (ckI (by omega) (by omega)), clI (by omega), a2, ob1_ss, if_neg (ckK (by omega) (by omega)), eT.1, hrt, fX2_passAll]
    refine (congrArg (fun z => ob6 z _) t1).trans ?_
    rfl
  · rw [t8, s16]; exact or_bits ht hT4 hT
  · rw [← t3.2.1, t6, upd_n _ _ (by decide), hN.2.1]; exact hk2
  · have := t9 g hg hb'; omega
theorem LED.send {n G D T N S g : Nat} (hn : 100 ≤ n) {X : Nat → Nat → Int32} {r : Nat → Int32} (hX : HX G D T N S X r) {o w la st : Nat → Int32} (hL : LED G D T (X 6) (X 10) (X 11) (X 12) o w la st) (hg : g < G) (hbg : bt (o 1) g = true) (wl om : Nat → Int32) :
    ∃ R o' w' la' wl' om' st', fX2_dismiss n ((1 : Int32) <<< (nI g &&& 31)) o w la wl (X 5) (X 6) (X 9) (X 10) (X 11) (X 12) = some (R, o', w', la', wl') ∧ fX10_sends n ((1 : Int32) <<< (nI g &&& 31)) om r st = some (R, om', st') ∧ LED G D T (X 6) (X 10) (X 11) (X 12) o' w' la' st' ∧ (∀ k, k ≠ 22 → om' k = om k) := by
  obtain ⟨hH, h1G, hT4, hN5, hS6, x50, x51, x58, x59, x513, r6, x150, r7, x153, r8, bc, bw, bg, bp, ew, bwt, bk, bs, inv, bdm, unq, etl, bth, btt, end_, bnh, esi, bsi⟩ := id hX
  obtain ⟨hN, hS, q3, hT, c, k, hc1, hk, hc2, hk2, hb⟩ := hL
  have hG := hH.1
  have hD := hH.2.2.2.2.2.2.2.1
  obtain ⟨q, hq, eq⟩ := bg
  have hgr : X 5 2 = nI q := hH.2.2.2.1.trans eq
  obtain ⟨o1, w1, la1, st1, e1, e2, hN1, hc1', eo, h16⟩ := rel_goes (n := n) (om := om) (by omega) hH hN hc2 (by omega) (bit_lt hG hg)
  obtain ⟨R, o', w', la', wl', om', st', f1, f2, g1, g2, g3, g4, g5, g6, g7, g8⟩ := settleS (n := n) (by omega) hH (c := c) (by omega) o1 w1 la1 wl om st1 hN1 (hc1'.trans hc2)
  have hsub : ∀ i, i < 32 → bt (o1 1) i = true → bt (o 1) i = true ∧ i ≠ g := fun i hi h => by
    rw [eo, upd_s, b_and, b_not _ hi, b_one g (by omega) i hi] at h
    simp at h
    exact h
  have e1' := e1
  rw [fX2_release] at e1'
  have low : ∀ i, i < G → bt (o1 1) i = true → (w1 i).toInt ≤ (w i).toInt ∧ -(10000 + 40 * (G : Int)) ≤ (w1 i).toInt := fun i hi h => rel_low (n := n) hH hq hgr (B := 10000) (by omega) G 0 n w la _ (by omega) e1' (fun i hi h => by
    have h' : bt (o1 1) i = true := by rw [eo]; exact h
    have := hb i hi (hsub i (by omega) h').1
    omega) i hi (by rw [eo] at h; exact h)
  refine ⟨_, o', w', la', wl', om', st', by rw [fX2_dismiss, e1, ob3_ss, f1, ob5_ss], by rw [fX10_sends, e2, ob1_ss, f2, ob3_ss], ⟨g1, g6, by rw [g7.2.1, eo, upd_n _ _ (by decide), q3, ← h16, g7.2.2.2.2], by rw [g7.2.2.2.2, h16]; exact hT, c, k, hc1, hk, (g2.trans hc1').trans hc2, ?_, fun i hi h => ?_⟩, g4⟩
  · rw [← g1.2.1, g7.1, eo, upd_n _ _ (by decide), hN.2.1]; exact hk2
  · have h1 := g7.2.2.1 i (by omega) h
    have hne : o' 1 ≠ mask G := fun hm => by
      have z : bt (o' 1) g = true := by rw [hm, b_all G hG g (by omega)]; exact decide_eq_true hg
      exact (hsub g (by omega) (g7.2.2.1 g (by omega) z)).2 rfl
    have l0 := g6.low hD bdm hi h hne
    have l1 := low i hi h1
    have l2 := g8 ⟨q, hq, hgr⟩ (fun i hi h => by have := low i hi h; omega) i hi h
    have l3 := hb i hi (hsub i (by omega) h1).1
    omega
theorem LED.cup {G D T N S g k : Nat} {X : Nat → Nat → Int32} {r : Nat → Int32} (hX : HX G D T N S X r) {o w la st : Nat → Int32} (hL : LED G D T (X 6) (X 10) (X 11) (X 12) o w la st) (hg : g < G) (hbg : bt (o 1) g = true) (hk : st 15 = nI (k + 1)) (hk4 : k < 4) :
    LED G D T (X 6) (X 10) (X 11) (X 12) (upd o 2 (o 2 - 1)) (upd w g (w g + X 5 1)) la (upd (upd st 15 (st 15 - 1)) g (upd st 15 (st 15 - 1) g + r 1)) := by
  obtain ⟨hH, h1G, hT4, hN5, hS6, x50, x51, x58, x59, x513, r6, x150, r7, x153, r8, bc, bw, bg, bp, ew, bwt, bk, bs, inv, bdm, unq, -⟩ := hX
  obtain ⟨hN, hS, q3, hT, c, k', hc1, hk', hc2, hk2, hb⟩ := hL
  have hG := hH.1
  have hD := hH.2.2.2.2.2.2.2.1
  have ek : k' = k + 1 := nI_inj (by omega) (by omega) (hk2.symm.trans hk)
  subst ek
  obtain ⟨v, hv1, hv, ev⟩ := bw
  have bd := hb g hg hbg
  have es : (w g + nI v).toInt = (w g).toInt + (v : Int) := add_small (by omega) (by omega)
  rw [x51, ev]
  have hN0 : NR G (upd o 2 (o 2 - 1)) w la (upd st 15 (st 15 - 1)) := by
    obtain ⟨a, b, c, d, e, f, g, i⟩ := hN
    exact ⟨by rw [upd_n _ _ (by decide), upd_n _ _ (by decide)]; exact a, by rw [upd_s, upd_s, b], c, fun g hg => by rw [upd_n _ _ (by omega)]; exact d g hg, fun g hg => by rw [upd_n _ _ (by omega), upd_n _ _ (by omega)]; exact e g hg, fun g hg => by rw [upd_n _ _ (by omega), upd_n _ _ (by omega)]; exact f g hg, fun k hk => by rw [upd_n _ _ (by decide)]; exact g k hk, fun k h1 h2 => by rw [upd_n _ _ (by decide)]; exact i k h1 h2⟩
  have hN1 := hN0.want hG hg (w g + nI v)
  have ew' : upd st 15 (st 15 - 1) g = w g := by rw [upd_n _ _ (by omega), hN.2.2.2.1 g hg]
  rw [ew']
  refine ⟨hN1, fun i hi => ?_, by rw [upd_n _ _ (by decide), upd_n _ _ (by omega), upd_n _ _ (by decide)]; exact q3, by rw [upd_n _ _ (by omega), upd_n _ _ (by decide)]; exact hT, c, k, hc1, by omega, by rw [upd_n _ _ (by omega), upd_n _ _ (by decide)]; exact hc2, by rw [upd_n _ _ (by omega), upd_s, hk2, nI_pred], fun i hi h => ?_⟩
  · have h := hS i hi
    by_cases e : i = g
    · subst e
      have b := wsum_bd hD bdm o (X 10) (X 11) i
      have ew2 : wsum D (upd o 2 (o 2 - 1)) (X 10) (X 11) (X 12) i = wsum D o (X 10) (X 11) (X 12) i := by
        unfold wsum; rw [upd_n _ _ (by decide)]
      rw [upd_s, ew2, upd_n _ _ (show (1 : Nat) ≠ 2 by decide)]
      have imp : w i + nI v + wsum D o (X 10) (X 11) (X 12) i ≤ 0 → w i + wsum D o (X 10) (X 11) (X 12) i ≤ 0 := by
        have z : (0 : Int32).toInt = 0 := by decide
        have a1 : (w i + nI v + wsum D o (X 10) (X 11) (X 12) i).toInt = (w i).toInt + (v : Int) + (wsum D o (X 10) (X 11) (X 12) i).toInt := by
          rw [Int32.toInt_add (w i + nI v), es]; exact Int.bmod_eq_of_le (by omega) (by omega)
        have a2 : (w i + wsum D o (X 10) (X 11) (X 12) i).toInt = (w i).toInt + (wsum D o (X 10) (X 11) (X 12) i).toInt := by
          rw [Int32.toInt_add]; exact Int.bmod_eq_of_le (by omega) (by omega)
        rw [Int32.le_iff_toInt_le, Int32.le_iff_toInt_le, a1, a2, z]
        omega
      by_cases z : w i + nI v + wsum D o (X 10) (X 11) (X 12) i ≤ 0
      · rw [decide_eq_true (imp z)] at h
        rw [decide_eq_true z]; exact h
      · rw [decide_eq_false z]; simp
    · rw [upd_n _ _ e]
      unfold wsum at h ⊢
      rw [upd_n _ _ (show (1 : Nat) ≠ 2 by decide)]
      exact h
  · have h : bt (o 1) i = true := h
    have b0 := hb i hi h
    by_cases e : i = g
    · subst e; rw [upd_s, es]; omega
    · rw [upd_n _ _ e]; omega
