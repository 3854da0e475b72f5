/-! the ways, by both -/
theorem OKs.cg {G D T N S k : Nat} {X : Nat → Nat → Int32} {r : Nat → Int32} (hX : HX G D T N S X r) (hk : k < S) {A A' : Nat → Int32} (h : ∀ i, i ≤ 30 → A i = A' i) : OKs X A k ↔ OKs X A' k := by
  obtain ⟨h1, g, hh1, hg, s1, s2, s3, s4, s5, s6, s7⟩ := sight hX hk
  unfold OKs
  rw [h _ (by omega)]
/-- with a cup for g at hour h -/
noncomputable def StC (n G : Nat) (X : Nat → Nat → Int32) (r po : Nat → Int32) (h g : Nat) : Nat → Q4 := fun i => if i ≤ h then TJ n G X r po (qS G X r) i else TJ n G X r po (wake X r (TJ n G X r po (qS G X r) h) g) (i - h)
theorem base_spec {n G D T N S : Nat} (hn : 100 ≤ n) {X : Nat → Nat → Int32} {r : Nat → Int32} (hX : HX G D T N S X r) {po : Nat → Int32} (hpo : po 0 = 0) : ∀ h, h ≤ 200 → (NR G (TJ n G X r po (qS G X r) h).1 (TJ n G X r po (qS G X r) h).2.1 (TJ n G X r po (qS G X r) h).2.2.1 (TJ n G X r po (qS G X r) h).2.2.2 ∧ (TJ n G X r po (qS G X r) h).2.2.2 14 = nI h) ∧ PS n G X r po (TJ n G X r po (qS G X r) h) (TJ n G X r po (qS G X r) (h + 1)) := by
  intro h hh
  have hG := hX.1.1
  have z := tj_spec hn hX hpo (qS_nr hX) (c := 0) (by
    show stS G r 14 = nI 0
    rw [stS, if_neg (by omega), if_neg (by decide)]; rfl) (by omega) h hh
  rw [Nat.zero_add] at z
  exact z
theorem cup_spec {n G D T N S h g : Nat} (hn : 100 ≤ n) {X : Nat → Nat → Int32} {r : Nat → Int32} (hX : HX G D T N S X r) {po : Nat → Int32} (hpo : po 0 = 0) (hh : h ≤ 30) (hg : g < G) : ∀ i, i ≤ 200 → (NR G (TJ n G X r po (wake X r (TJ n G X r po (qS G X r) h) g) i).1 (TJ n G X r po (wake X r (TJ n G X r po (qS G X r) h) g) i).2.1 (TJ n G X r po (wake X r (TJ n G X r po (qS G X r) h) g) i).2.2.1 (TJ n G X r po (wake X r (TJ n G X r po (qS G X r) h) g) i).2.2.2 ∧ (TJ n G X r po (wake X r (TJ n G X r po (qS G X r) h) g) i).2.2.2 14 = nI (h + i)) ∧ PS n G X r po (TJ n G X r po (wake X r (TJ n G X r po (qS G X r) h) g) i) (TJ n G X r po (wake X r (TJ n G X r po (qS G X r) h) g) (i + 1)) := by
  have hG := hX.1.1
  have x51 : X 5 1 = r 1 := hX.2.2.2.2.2.2.1
  obtain ⟨⟨b1, b2⟩, -⟩ := base_spec hn hX hpo h (by omega)
  exact tj_spec hn hX hpo (q0 := wake X r (TJ n G X r po (qS G X r) h) g) (wake_nr hG hg x51 b1) (c := h) (by
    show upd _ g _ 14 = nI h
    rw [upd_n _ _ (by omega)]; exact b2) (by omega)
/-- the reference's answer for a cup -/
theorem soByC {n G D T N S h g : Nat} (hn : 100 ≤ n) {X : Nat → Nat → Int32} {r : Nat → Int32} (hX : HX G D T N S X r) {po : Nat → Int32} (hpo : po 0 = 0) (hh : h ≤ 30) (hg : g < G) (om tr : Nat → Int32) :
    ∃ (v : Int32) (om' tr' : Nat → Int32), fX10_isSoBy n (nI h) (nI g) om r tr = some (v, om', tr') ∧ (v = 0 ∨ v = 1) ∧ (v = 1 ↔ (∀ k, k < S → OKs X (fun i => (StC n G X r po h g i).1 1) k) ∧ bt ((TJ n G X r po (qS G X r) h).1 1) g = true) ∧ (∀ k, k ≠ 22 → om' k = om k) := by
  have hG := hX.1.1
  obtain ⟨st', l1, l2⟩ := layS (n := n) (om := om) hn hG hX.1.2.2.1 tr
  obtain ⟨v, om', tr', e1, e2, e3, e4⟩ := soRun (po := po) hn hX hg (nI h) (StC n G X r po h g) (fun i hi => ⟨fun hne => by
    unfold StC
    by_cases q : i + 1 ≤ h
    · rw [if_pos (show i ≤ h by omega), if_pos q]; exact (base_spec hn hX hpo i (by omega)).2
    · have hih : i ≠ h := fun e => hne (by rw [e])
      rw [if_neg (show ¬ i ≤ h by omega), if_neg q, show i + 1 - h = i - h + 1 by omega]
      exact (cup_spec hn hX hpo hh hg (i - h) (by omega)).2, fun heq => by
    have e : i = h := nI_inj (by omega) (by omega) heq
    subst e
    unfold StC
    rw [if_pos (Nat.le_refl _), if_neg (show ¬ i + 1 ≤ i by omega), show i + 1 - i = 0 + 1 by omega]
    exact (cup_spec hn hX hpo hh hg 0 (by omega)).2⟩) 31 0 n om st' (by omega) (by omega) (by
    unfold StC
    rw [if_pos (Nat.zero_le _)]
    exact (qS_nr hX).cg hG rfl rfl rfl (fun _ _ => rfl) (fun _ _ => rfl) (fun i hi => l2 i (by omega)))
  refine ⟨v, om', tr', ?_, e2, ?_, e4⟩
  · rw [fX10_isSoBy, l1, ob1_ss]; exact e1
  · rw [e3]
    have hb : (StC n G X r po h g h).1 1 = (TJ n G X r po (qS G X r) h).1 1 := by unfold StC; rw [if_pos (Nat.le_refl _)]
    exact ⟨fun z => ⟨fun k hk => z.1 k hk (Nat.zero_le _), by rw [← hb]; exact z.2 h (Nat.zero_le _) hh rfl⟩, fun z => ⟨fun k hk _ => z.1 k hk, fun i _ hi heq => by
      have e : i = h := nI_inj (by omega) (by omega) heq
      subst e
      rw [hb]; exact z.2⟩⟩
/-- and without one -/
theorem soBy0 {n G D T N S : Nat} (hn : 100 ≤ n) {X : Nat → Nat → Int32} {r : Nat → Int32} (hX : HX G D T N S X r) {po : Nat → Int32} (hpo : po 0 = 0) (om tr : Nat → Int32) :
    ∃ (v : Int32) (om' tr' : Nat → Int32), fX10_isSoBy n (-1) 0 om r tr = some (v, om', tr') ∧ (v = 0 ∨ v = 1) ∧ (v = 1 ↔ ∀ k, k < S → OKs X (fun i => (TJ n G X r po (qS G X r) i).1 1) k) ∧ (∀ k, k ≠ 22 → om' k = om k) := by
  have hG := hX.1.1
  have h1G : 1 ≤ G := hX.2.1
  have ne : ∀ i, i ≤ 30 → ¬ nI i = (-1 : Int32) := by decide +kernel
  obtain ⟨st', l1, l2⟩ := layS (n := n) (om := om) hn hG hX.1.2.2.1 tr
  obtain ⟨v, om', tr', e1, e2, e3, e4⟩ := soRun (po := po) (g := 0) hn hX (by omega) (-1) (TJ n G X r po (qS G X r)) (fun i hi => ⟨fun _ => (base_spec hn hX hpo i (by omega)).2, fun heq => absurd heq (ne i hi)⟩) 31 0 n om st' (by omega) (by omega) ((qS_nr hX).cg hG rfl rfl rfl (fun _ _ => rfl) (fun _ _ => rfl) (fun i hi => l2 i (by omega)))
  refine ⟨v, om', tr', ?_, e2, ?_, e4⟩
  · rw [fX10_isSoBy, l1, ob1_ss]; exact e1
  · rw [e3]
    exact ⟨fun z k hk => z.1 k hk (Nat.zero_le _), fun z => ⟨fun k hk _ => z k hk, fun i _ hi heq => absurd heq (ne i hi)⟩⟩
theorem addS {n w : Nat} (hw : w < 218) {o f3 : Nat → Int32} (ho : o 1 = nI w) (x : Int32) : fX8_addIf n 1 x o f3 = some (upd o 1 (nI (w + 1)), upd f3 w x) := by
  rw [fX8_addIf, if_neg i10, ho, if_neg (show ¬ (218 : Int32) ≤ nI w from nI_ge (b := 218) (by omega) (by omega)), if_neg (ckI (by omega) (by omega)), clI (by omega), sI]
theorem wayLoop {n G D T N S h : Nat} (hn : 100 ≤ n) {X : Nat → Nat → Int32} {r : Nat → Int32} (hX : HX G D T N S X r) {po : Nat → Int32} (hpo : po 0 = 0) (hh : h ≤ 30) {bo bw bl : Nat → Int32} (hB : NR G bo bw bl (TJ n G X r po (qS G X r) h).2.2.2) (K : (Nat → Int32) → (Nat → Int32) → (Nat → Int32) → (Nat → Int32) → (Nat → Int32) → (Nat → Int32) → (Nat → Int32) → (Nat → Int32) → Option ((Nat → Int32) × (Nat → Int32) × (Nat → Int32) × (Nat → Int32) × (Nat → Int32) × (Nat → Int32) × (Nat → Int32) × (Nat → Int32))) :
    ∀ (j g f w : Nat) (o f3 f4 t0 tw tl tv : Nat → Int32), g + j = G → j < f → o 1 = nI w → w + j ≤ 218 → (∀ i, i ≤ h → f4 i = (TJ n G X r po (qS G X r) i).1 1) →
      ∃ (w' : Nat) (o' f3' f4' q1 q2 q3 q4 : Nat → Int32), fX8_tryCups_L2 n bo bw bl (X 5) (X 6) (X 8) (X 9) (X 10) (X 11) (X 12) (X 15) (X 18) (X 19) (X 20) K f (nI g) o f3 f4 t0 tw tl tv po = K o' f3' f4' q1 q2 q3 q4 po ∧ w ≤ w' ∧ w' ≤ w + j ∧ o' 1 = nI w' ∧ (∀ k, k ≠ 1 → o' k = o k) ∧ (∀ i, i ≤ h → f4' i = (TJ n G X r po (qS G X r) i).1 1) ∧ (∀ i, i < w → f3' i = f3 i) ∧
        ∀ (fu : Nat) (om tr wc : Nat → Int32) (K' : Int32 → (Nat → Int32) → (Nat → Int32) → (Nat → Int32) → Option (Int32 × (Nat → Int32) × (Nat → Int32) × (Nat → Int32))), j < fu → (∀ i, i < w → wc i = f3 i) → ∃ om' tr' wc', fX10_seekWays_L31 n (nI h) r K' fu (nI w) (nI g) om tr wc = K' (nI w') om' tr' wc' ∧ (∀ i, i < w' → wc' i = f3' i) ∧ (∀ k, k ≠ 22 → om' k = om k) := by
  have hG := hX.1.1
  have x51 : X 5 1 = r 1 := hX.2.2.2.2.2.2.1
  obtain ⟨⟨b1, b2⟩, -⟩ := base_spec hn hX hpo h (by omega)
  have hth : bo 1 = (TJ n G X r po (qS G X r) h).1 1 := hB.th hG b1
  have hcl : bo 0 = nI h := hB.1.trans b2
  intro j
  induction j with
  | zero =>
    intro g f w o f3 f4 t0 tw tl tv hg hf ho hw hf4
    obtain ⟨u, rfl⟩ : ∃ u, f = u + 1 := ⟨f - 1, by omega⟩
    refine ⟨w, o, f3, f4, t0, tw, tl, tv, by rw [fX8_tryCups_L2, hX.1.2.1, if_pos (nI_le (by omega) (by omega))], Nat.le_refl _, by omega, ho, fun _ _ => rfl, hf4, fun _ _ => rfl, fun fu om tr wc K' hfu hwc => ?_⟩
    obtain ⟨fu, rfl⟩ : ∃ u, fu = u + 1 := ⟨fu - 1, by omega⟩
    exact ⟨om, tr, wc, by rw [fX10_seekWays_L31, hX.1.2.2.1, if_pos (nI_le (by omega) (by omega))], hwc, fun _ _ => rfl⟩
  | succ j ih =>
    intro g f w o f3 f4 t0 tw tl tv hg hf ho hw hf4
    obtain ⟨u, rfl⟩ : ∃ u, f = u + 1 := ⟨f - 1, by omega⟩
    rw [fX8_tryCups_L2, hX.1.2.1, if_neg (nI_ge (by omega) (by omega)), sI]
    have so := fun om tr => soByC (h := h) (g := g) hn hX hpo hh (by omega) om tr
    by_cases hb : bt (bo 1) g = true
    · rw [has_y (by omega) hb, ob1_ss, if_neg i10, become_eq, ob3_ss, if_neg (ckI (by omega) (by omega)), if_neg (ckI (by omega) (by omega)), clI (by omega)]
      have hcp : NR G (upd (upd (upd (upd t0 0 (bo 0)) 1 (bo 1)) 2 (bo 2)) 3 (bo 3)) (va_cpy bw tw 0 0 7) (va_cpy bl tl 0 0 7) (TJ n G X r po (qS G X r) h).2.2.2 := hB.cg hG rfl rfl rfl (fun g hg => cpy_lo (by omega)) (fun g hg => cpy_lo (by omega)) (fun _ _ => rfl)
      have hwk := wake_nr (g := g) hG (by omega) x51 hcp
      obtain ⟨⟨c1, c2⟩, -⟩ := cup_spec hn hX hpo hh (show g < G by omega) 0 (by omega)
      rw [Nat.add_zero] at c2
      obtain ⟨f4', p1, p2, p3, p4, e1, e2⟩ := followS hn hX hpo (q0 := wake X r (TJ n G X r po (qS G X r) h) g) c1 c2 hh o f4 (upd (upd (upd (upd t0 0 (bo 0)) 1 (bo 1)) 2 (bo 2)) 3 (bo 3)) (upd (va_cpy bw tw 0 0 7) g (va_cpy bw tw 0 0 7 g + X 5 1)) (va_cpy bl tl 0 0 7) tv hwk
      have hA : ∀ i, i ≤ 30 → f4' i = (StC n G X r po h g i).1 1 := fun i hi => by
        rw [e2 i]
        unfold StC
        by_cases q : i ≤ h
        · rw [if_pos q]
          by_cases q2 : i = h
          · subst q2
            rw [if_pos ⟨Nat.le_refl _, by omega⟩, Nat.sub_self]; rfl
          · rw [if_neg (fun z => by omega)]; exact hf4 i q
        · rw [if_neg q, if_pos ⟨by omega, by omega⟩]
      have hf4' : ∀ i, i ≤ h → f4' i = (TJ n G X r po (qS G X r) i).1 1 := fun i hi => by
        rw [hA i (by omega)]; unfold StC; rw [if_pos hi]
      rw [e1, ob6_ss]
      rcases wrongS (n := n) hn hX o f4' with ⟨s, hs1, hs2, hs3, hs4⟩ | ⟨hs1, hs4⟩
      · rw [hs4, ob1_ss, if_neg (fun z => (by decide +kernel : ∀ s, s ≤ 6 → ¬ nI s = (-2 : Int32)) s (by have := hX.2.2.2.2.1; omega) z), fX8_addIf, if_pos i00, ob2_ss]
        obtain ⟨w', o', f3', f4'', q1, q2, q3, q4, y1, y2, y3, y4, y5, y6, y7, y8⟩ := ih (g + 1) u w o f3 f4' p1 p2 p3 p4 (by omega) (by omega) ho (by omega) hf4'
        refine ⟨w', o', f3', f4'', q1, q2, q3, q4, y1, y2, by omega, y4, y5, y6, y7, fun fu om tr wc K' hfu hwc => ?_⟩
        obtain ⟨fu, rfl⟩ : ∃ u, fu = u + 1 := ⟨fu - 1, by omega⟩
        obtain ⟨v, om1, tr1, z1, z2, z3, z4⟩ := so om tr
        have v0 : v = 0 := by
          rcases z2 with z | z
          · exact z
          · exact absurd ((OKs.cg hX hs1 hA).mpr ((z3.mp z).1 s hs1)) hs2
        subst v0
        obtain ⟨om', tr', wc', x1, x2, x3⟩ := y8 fu om1 tr1 wc K' (by omega) hwc
        exact ⟨om', tr', wc', by rw [fX10_seekWays_L31, hX.1.2.2.1, if_neg (nI_ge (by omega) (by omega)), z1, ob3_ss, if_pos i00, sI, x1], x2, fun k hk => (x3 k hk).trans (z4 k hk)⟩
      · rw [hs4, ob1_ss, if_pos rfl, addS (w := w) (by omega) ho, ob2_ss, hcl]
        obtain ⟨w', o', f3', f4'', q1, q2, q3, q4, y1, y2, y3, y4, y5, y6, y7, y8⟩ := ih (g + 1) u (w + 1) (upd o 1 (nI (w + 1))) (upd f3 w ((10 : Int32) * nI h + nI g)) f4' p1 p2 p3 p4 (by omega) (by omega) (upd_s _ _ _) (by omega) hf4'
        refine ⟨w', o', f3', f4'', q1, q2, q3, q4, y1, by omega, by omega, y4, fun k hk => (y5 k hk).trans (upd_n _ _ hk), y6, fun i hi => (y7 i (by omega)).trans (upd_n _ _ (by omega)), fun fu om tr wc K' hfu hwc => ?_⟩
        obtain ⟨fu, rfl⟩ : ∃ u, fu = u + 1 := ⟨fu - 1, by omega⟩
        obtain ⟨v, om1, tr1, z1, z2, z3, z4⟩ := so om tr
        have v1 : v = 1 := z3.mpr ⟨fun k hk => (OKs.cg hX hk hA).mp (hs1 k hk), by rw [← hth]; exact hb⟩
        subst v1
        obtain ⟨om', tr', wc', x1, x2, x3⟩ := y8 fu om1 tr1 (upd wc w ((10 : Int32) * nI h + nI g)) K' (by omega) (fun i hi => by
          by_cases e : i = w
          · subst e; rw [upd_s, upd_s]
          · rw [upd_n _ _ e, upd_n _ _ e]; exact hwc i (by omega))
        exact ⟨om', tr', wc', by rw [fX10_seekWays_L31, hX.1.2.2.1, if_neg (nI_ge (by omega) (by omega)), z1, ob3_ss, if_neg i10, if_neg (ckI (by omega) (by omega)), clI (by omega), sI, sI, x1], x2, fun k hk => (x3 k hk).trans (z4 k hk)⟩
    · rw [has_n (by omega) hb, ob1_ss, if_pos i00]
      obtain ⟨w', o', f3', f4'', q1, q2, q3, q4, y1, y2, y3, y4, y5, y6, y7, y8⟩ := ih (g + 1) u w o f3 f4 t0 tw tl tv (by omega) (by omega) ho (by omega) hf4
      refine ⟨w', o', f3', f4'', q1, q2, q3, q4, y1, y2, by omega, y4, y5, y6, y7, fun fu om tr wc K' hfu hwc => ?_⟩
      obtain ⟨fu, rfl⟩ : ∃ u, fu = u + 1 := ⟨fu - 1, by omega⟩
      obtain ⟨v, om1, tr1, z1, z2, z3, z4⟩ := so om tr
      have v0 : v = 0 := by
        rcases z2 with z | z
        · exact z
        · exact absurd (by rw [hth]; exact (z3.mp z).2) hb
      subst v0
      obtain ⟨om', tr', wc', x1, x2, x3⟩ := y8 fu om1 tr1 wc K' (by omega) hwc
      exact ⟨om', tr', wc', by rw [fX10_seekWays_L31, hX.1.2.2.1, if_neg (nI_ge (by omega) (by omega)), z1, ob3_ss, if_pos i00, sI, x1], x2, fun k hk => (x3 k hk).trans (z4 k hk)⟩
theorem wayHours {n G D T N S : Nat} (hn : 100 ≤ n) {X : Nat → Nat → Int32} {r : Nat → Int32} (hX : HX G D T N S X r) {po : Nat → Int32} (hpo : po 0 = 0) :
    ∀ (j h f w : Nat) (o f3 f4 bo bw bl bv t0 tw tl tv : Nat → Int32), h + j = 31 → j < f → o 1 = nI w → w ≤ 1 + 7 * h → (∀ i, i < h → f4 i = (TJ n G X r po (qS G X r) i).1 1) → NR G bo bw bl (TJ n G X r po (qS G X r) h).2.2.2 →
      ∃ (w' : Nat) (o' f3' f4' b1 b2 b3 b4 q1 q2 q3 q4 : Nat → Int32), fX8_search_L76 n (X 5) (X 6) (X 8) (X 9) (X 10) (X 11) (X 12) (X 15) (X 18) (X 19) (X 20) (fun a1 a2 a3 a4 a5 a6 a7 a8 a9 a10 a11 a12 => some ((upd a1 0 1), a2, a3, a4, a5, a6, a7, a8, a9, a10, a11, a12)) f (nI h) o f3 f4 bo bw bl bv t0 tw tl tv po = some (upd o' 0 1, f3', f4', b1, b2, b3, b4, q1, q2, q3, q4, po) ∧ w' ≤ 218 ∧ o' 1 = nI w' ∧ (∀ k, k ≠ 1 → o' k = o k) ∧
        ∀ (fu : Nat) (om tr wc : Nat → Int32), j < fu → (∀ i, i < w → wc i = f3 i) → ∃ om' tr' wc', fX10_seekWays_L23 n r (fun a b c d => some (a, b, c, d)) fu (nI w) (nI h) om tr wc = some (nI w', om', tr', wc') ∧ (∀ i, i < w' → wc' i = f3' i) ∧ (∀ k, k ≠ 22 → om' k = om k) := by
  have hG := hX.1.1
  have l30 : (30 : Int32) = nI 30 := rfl
  intro j
  induction j with
  | zero =>
    intro h f w o f3 f4 bo bw bl bv t0 tw tl tv hh hf ho hw hf4 hN
    obtain ⟨u, rfl⟩ : ∃ u, f = u + 1 := ⟨f - 1, by omega⟩
    refine ⟨w, o, f3, f4, bo, bw, bl, bv, t0, tw, tl, tv, by rw [fX8_search_L76, l30, if_pos (nI_lt (by omega) (by omega))], by omega, ho, fun _ _ => rfl, fun fu om tr wc hfu hwc => ?_⟩
    obtain ⟨fu, rfl⟩ : ∃ u, fu = u + 1 := ⟨fu - 1, by omega⟩
    exact ⟨om, tr, wc, by rw [fX10_seekWays_L23, l30, if_pos (nI_lt (by omega) (by omega))], hwc, fun _ _ => rfl⟩
  | succ j ih =>
    intro h f w o f3 f4 bo bw bl bv t0 tw tl tv hh hf ho hw hf4 hN
    obtain ⟨u, rfl⟩ : ∃ u, f = u + 1 := ⟨f - 1, by omega⟩
    obtain ⟨⟨c1, c2⟩, c3⟩ := base_spec hn hX hpo h (by omega)
    obtain ⟨w1, o1, g3, g4, p1, p2, p3, p4, y1, y2, y3, y4, y5, y6, y7, y8⟩ := wayLoop hn hX hpo (show h ≤ 30 by omega) hN (fun a b c d e f g h => some (a, b, c, d, e, f, g, h)) G 0 n w o f3 (upd f4 h (bo 1)) t0 tw tl tv (by omega) (by omega) ho (by omega) (fun i hi => by
      by_cases e : i = h
      · subst e; rw [upd_s]; exact hN.th hG c1
      · rw [upd_n _ _ e]; exact hf4 i (by omega))
    obtain ⟨R, bo1, bw1, bl1, bv1, z1, z2⟩ := c3.2.2.1 bo bw bl bv hN
    obtain ⟨w', o', f3', f4', b1, b2, b3, b4, q1, q2, q3, q4, x1, x2, x3, x4, x5⟩ := ih (h + 1) u w1 o1 g3 g4 bo1 bw1 bl1 bv1 p1 p2 p3 p4 (by omega) (by omega) y4 (by omega) (fun i hi => y6 i (by omega)) z2
    refine ⟨w', o', f3', f4', b1, b2, b3, b4, q1, q2, q3, q4, ?_, x2, x3, fun k hk => (x4 k hk).trans (y5 k hk), fun fu om tr wc hfu hwc => ?_⟩
    · rw [fX8_search_L76, l30, if_neg (nI_nlt (by omega) (by omega)), if_neg (ckI (by omega) (by omega)), clI (by omega), fX8_tryCups]
      refine (congrArg (fun z => ob8 z _) (show _ = _ from y1)).trans ?_
      show ob6 (fX2_pass n bo bw bl bv (X 5) (X 6) (X 8) (X 9) (X 10) (X 11) (X 12) po) _ = _
      rw [z1, ob6_ss, sI, x1]
    · obtain ⟨fu, rfl⟩ : ∃ u, fu = u + 1 := ⟨fu - 1, by omega⟩
      obtain ⟨om1, tr1, wc1, v1, v2, v3⟩ := y8 n om tr wc (fun a b c d => fX10_seekWays_L23 n r (fun a b c d => some (a, b, c, d)) fu a (nI h + 1) b c d) (by omega) hwc
      obtain ⟨om2, tr2, wc2, t1, t2, t3⟩ := x5 fu om1 tr1 wc1 (by omega) v2
      refine ⟨om2, tr2, wc2, ?_, t2, fun k hk => (t3 k hk).trans (v3 k hk)⟩
      rw [fX10_seekWays_L23, l30, if_neg (nI_nlt (by omega) (by omega))]
      refine (show _ = _ from v1).trans ?_
      rw [sI, t1]
/-- the first sight that isn't so, by the reference -/
theorem judge_loop {n G D T N S : Nat} (hn : 100 ≤ n) {X : Nat → Nat → Int32} {r : Nat → Int32} (hX : HX G D T N S X r) {po : Nat → Int32} (hpo : po 0 = 0) :
    ∀ (j k f : Nat) (om tr : Nat → Int32), k + j = S → j < f → (∀ s, s < k → OKs X (fun i => (TJ n G X r po (qS G X r) i).1 1) s) →
      ∃ (R : Int32) (om' tr' : Nat → Int32), fX10_judge_L19 n r (fun o a => some ((-2 : Int32), o, a)) f (nI k) om tr = some (R, om', tr') ∧ (∀ k, k ≠ 22 → om' k = om k) ∧ ((∃ s, s < S ∧ ¬ OKs X (fun i => (TJ n G X r po (qS G X r) i).1 1) s ∧ (∀ t, t < s → OKs X (fun i => (TJ n G X r po (qS G X r) i).1 1) t) ∧ R = nI s) ∨ ((∀ s, s < S → OKs X (fun i => (TJ n G X r po (qS G X r) i).1 1) s) ∧ R = -2)) := by
  have hG := hX.1.1
  have hS6 : S ≤ 6 := hX.2.2.2.2.1
  have e8 : r 8 = nI S := hX.2.2.2.2.2.2.2.2.2.2.2.2.2.2.1
  have l104 : (104 : Int32) = nI 104 := rfl
  have l3 : (3 : Int32) = nI 3 := rfl
  intro j
  induction j with
  | zero =>
    intro k f om tr hk hf hok
    obtain ⟨u, rfl⟩ : ∃ u, f = u + 1 := ⟨f - 1, by omega⟩
    exact ⟨-2, om, tr, by rw [fX10_judge_L19, e8, if_pos (nI_le (by omega) (by omega))], fun _ _ => rfl, Or.inr ⟨fun s hs => hok s (by omega), rfl⟩⟩
  | succ j ih =>
    intro k f om tr hk hf hok
    obtain ⟨u, rfl⟩ : ∃ u, f = u + 1 := ⟨f - 1, by omega⟩
    obtain ⟨h, g, hh, hg, s1, s2, s3, s4, s5, s6, s7⟩ := sight hX (show k < S by omega)
    have i0 : (104 : Int32) + ((3 : Int32) * nI k) = nI (104 + 3 * k) := by rw [l104, l3, mulI, addI]
    have i1 : nI (104 + 3 * k) + (1 : Int32) = nI (104 + 3 * k + 1) := sI _
    have i2 : nI (104 + 3 * k) + (2 : Int32) = nI (104 + 3 * k + 2) := by rw [lz2, addI]
    obtain ⟨st0, l1, l2⟩ := layS (n := n) (om := om) hn hG hX.1.2.2.1 tr
    have hours : ∀ (K : (Nat → Int32) → (Nat → Int32) → Option (Int32 × (Nat → Int32) × (Nat → Int32))) (i t fu : Nat) (om st : Nat → Int32), t + i = h → i < fu → NR G (TJ n G X r po (qS G X r) t).1 (TJ n G X r po (qS G X r) t).2.1 (TJ n G X r po (qS G X r) t).2.2.1 st → ∃ om' st', fX10_judge_L47 n (nI k) (nI (104 + 3 * k)) r K fu (nI t) om st = K om' st' ∧ NR G (TJ n G X r po (qS G X r) h).1 (TJ n G X r po (qS G X r) h).2.1 (TJ n G X r po (qS G X r) h).2.2.1 st' ∧ ∀ k, k ≠ 22 → om' k = om k := by
      intro K i
      induction i with
      | zero =>
        intro t fu om st ht hfu hN
        obtain ⟨u, rfl⟩ : ∃ u, fu = u + 1 := ⟨fu - 1, by omega⟩
        have e : t = h := by omega
        subst e
        exact ⟨om, st, by rw [fX10_judge_L47, i1, if_neg (ckI (by omega) (by omega)), clI (by omega), s4, if_pos (nI_le (by omega) (by omega))], hN, fun _ _ => rfl⟩
      | succ i ihi =>
        intro t fu om st ht hfu hN
        obtain ⟨u, rfl⟩ : ∃ u, fu = u + 1 := ⟨fu - 1, by omega⟩
        obtain ⟨R, om1, st1, p1, p2, p3⟩ := (base_spec hn hX hpo t (by omega)).2.2.2.2 om st hN
        obtain ⟨om', st', y1, y2, y3⟩ := ihi (t + 1) u om1 st1 (by omega) (by omega) p3
        exact ⟨om', st', by rw [fX10_judge_L47, i1, if_neg (ckI (by omega) (by omega)), clI (by omega), s4, if_neg (nI_ge (by omega) (by omega)), p1, ob3_ss, sI, y1], y2, fun k hk => (y3 k hk).trans (p2 k hk)⟩
    obtain ⟨om1, st1, y1, y2, y3⟩ := hours (fun o a => if nI (104 + 3 * k) < 0 ∨ 266 ≤ (nI (104 + 3 * k)).toNatClampNeg then none else ob1 (fX10_isIn n (r (nI (104 + 3 * k)).toNatClampNeg) a) (fun u_14 => if nI (104 + 3 * k + 2) < 0 ∨ 266 ≤ (nI (104 + 3 * k + 2)).toNatClampNeg then none else if (r (nI (104 + 3 * k + 2)).toNatClampNeg) = 1 then if u_14 = 1 then some (nI k, o, a) else fX10_judge_L19 n r (fun o a => some ((-2 : Int32), o, a)) u (nI (k + 1)) o a else if u_14 = 0 then some (nI k, o, a) else fX10_judge_L19 n r (fun o a => some ((-2 : Int32), o, a)) u (nI (k + 1)) o a)) h 0 n om st0 (by omega) (by omega) ((qS_nr hX).cg hG rfl rfl rfl (fun _ _ => rfl) (fun _ _ => rfl) (fun i hi => l2 i (by omega)))
    have ok : OKs X (fun i => (TJ n G X r po (qS G X r) i).1 1) k ↔ (bt ((TJ n G X r po (qS G X r) h).1 1) g = true ↔ X 20 k = 1) := by unfold OKs; rw [s5, s6]
    have hth := y2.2.2.2.2.1 g hg
    have body : (OKs X (fun i => (TJ n G X r po (qS G X r) i).1 1) k ∧ fX10_judge_L19 n r (fun o a => some ((-2 : Int32), o, a)) (u + 1) (nI k) om tr = fX10_judge_L19 n r (fun o a => some ((-2 : Int32), o, a)) u (nI (k + 1)) om1 st1) ∨ (¬ OKs X (fun i => (TJ n G X r po (qS G X r) i).1 1) k ∧ fX10_judge_L19 n r (fun o a => some ((-2 : Int32), o, a)) (u + 1) (nI k) om tr = some (nI k, om1, st1)) := by
      have hd : fX10_judge_L19 n r (fun o a => some ((-2 : Int32), o, a)) (u + 1) (nI k) om tr = (if (r (104 + 3 * k + 2)) = 1 then if (if st1 (7 + g) = 0 then (1 : Int32) else 0) = 1 then some (nI k, om1, st1) else fX10_judge_L19 n r (fun o a => some ((-2 : Int32), o, a)) u (nI (k + 1)) om1 st1 else if (if st1 (7 + g) = 0 then (1 : Int32) else 0) = 0 then some (nI k, om1, st1) else fX10_judge_L19 n r (fun o a => some ((-2 : Int32), o, a)) u (nI (k + 1)) om1 st1) := by
        rw [fX10_judge_L19, e8, if_neg (nI_ge (by omega) (by omega)), l1, ob1_ss, i0, i2, sI]
        refine (show _ = _ from y1).trans ?_
        rw [if_neg (ckI (k := 104 + 3 * k) (by omega) (by omega)), clI (k := 104 + 3 * k) (by omega), s3, isInS n st1 (by omega), ob1_ss, if_neg (ckI (k := 104 + 3 * k + 2) (by omega) (by omega)), clI (k := 104 + 3 * k + 2) (by omega)]
      rw [hd]
      rcases s7 with ⟨z1, z2⟩ | ⟨z1, z2⟩
      · rw [z2, if_neg (show ¬ (0 : Int32) = 1 by decide)]
        by_cases hin : st1 (7 + g) = 0
        · rw [if_pos hin, if_neg i10]
          exact Or.inl ⟨ok.mpr ⟨fun _ => z1, fun _ => hth.mpr hin⟩, rfl⟩
        · rw [if_neg hin, if_pos i00]
          exact Or.inr ⟨fun z => hin (hth.mp ((ok.mp z).mpr z1)), rfl⟩
      · rw [z2, if_pos rfl]
        by_cases hin : st1 (7 + g) = 0
        · rw [if_pos hin, if_pos rfl]
          exact Or.inr ⟨fun z => absurd ((ok.mp z).mp (hth.mpr hin)) (by rw [z1]; decide), rfl⟩
        · rw [if_neg hin, if_neg (show ¬ (0 : Int32) = 1 by decide)]
          exact Or.inl ⟨ok.mpr ⟨fun z => absurd (hth.mp z) hin, fun z => absurd (z1.symm.trans z) (by decide)⟩, rfl⟩
    rcases body with ⟨b1, b2⟩ | ⟨b1, b2⟩
    · obtain ⟨R, om', tr', x1, x2, x3⟩ := ih (k + 1) u om1 st1 (by omega) (by omega) (fun s hs => by
        by_cases e : s = k
        · subst e; exact b1
        · exact hok s (by omega))
      exact ⟨R, om', tr', b2.trans x1, fun k hk => (x2 k hk).trans (y3 k hk), x3⟩
    · exact ⟨nI k, om1, st1, b2, y3, Or.inl ⟨k, by omega, b1, hok, rfl⟩⟩
theorem searchU {n G D T N S : Nat} (hn : 100 ≤ n) {X M : Nat → Nat → Int32} (hB : NOW G D T N S X M) {o f3 f4 bo bw bl bv t0 tw tl tv : Nat → Int32} (hU : UC n o f3 (M 15)) :
    ∃ o' f3' f4' b1 b2 b3 b4 q1 q2 q3 q4, fX8_search n o f3 f4 bo bw bl bv t0 tw tl tv (X 5) (X 6) (X 7) (X 8) (X 9) (X 10) (X 11) (X 12) (X 15) (X 18) (X 19) (X 20) (X 45) = some (o', f3', f4', b1, b2, b3, b4, q1, q2, q3, q4, X 45) ∧ UC n o' f3' (M 15) ∧ o' 0 = 1 := by
  rcases hU.1 with h0 | h1
  · have hX := hB.2.2.2.2.1
    have hpo := hB.2.2.1
    have hG := hX.1.1
    have hS6 : S ≤ 6 := hX.2.2.2.2.1
    have ne : ∀ s, s ≤ 6 → ¬ nI s = (-2 : Int32) := by decide +kernel
    obtain ⟨o1, w1, l1, a1, a2, a3, a4, a5, a6, a7⟩ := beginS (n := n) (o := bo) (w := bw) (la := bl) (fw := X 7) (by omega) hG hX.1.2.1
    have hN0 : NR G o1 w1 l1 (qS G X (M 15)).2.2.2 := (qS_nr hX).cg hG a2 a3 a4 a6 a7 (fun _ _ => rfl)
    have hN1 : NR G (upd (upd (upd (upd t0 0 (o1 0)) 1 (o1 1)) 2 (o1 2)) 3 (o1 3)) (va_cpy w1 tw 0 0 7) (va_cpy l1 tl 0 0 7) (qS G X (M 15)).2.2.2 := hN0.cg hG rfl rfl rfl (fun g hg => cpy_lo (by omega)) (fun g hg => cpy_lo (by omega)) (fun _ _ => rfl)
    obtain ⟨⟨c1, c2⟩, -⟩ := base_spec hn hX hpo 0 (by omega)
    obtain ⟨f4', p1, p2, p3, p4, e1, e2⟩ := followS hn hX hpo (q0 := qS G X (M 15)) c1 c2 (by omega) (upd o 1 0) f4 _ _ _ tv hN1
    have hA : ∀ i, i ≤ 30 → f4' i = (TJ n G X (M 15) (X 45) (qS G X (M 15)) i).1 1 := fun i hi => by rw [e2 i, if_pos ⟨by omega, by omega⟩, Nat.sub_zero]
    -- the class from here on, with w ways and what is wrong
    have go : ∀ (w : Nat) (W : Int32) (g3 : Nat → Int32), w ≤ 1 → (∀ (om tr wc : Nat → Int32), ∃ om' tr' wc', fX10_seekWays n om (M 15) tr wc = fX10_seekWays_L23 n (M 15) (fun a b c d => some (a, b, c, d)) n (nI w) 0 om' tr' wc' ∧ (∀ i, i < w → wc' i = g3 i) ∧ ∀ k, k ≠ 22 → om' k = om k) → (∀ om tr : Nat → Int32, ∃ om' tr', fX10_judge_L19 n (M 15) (fun o a => some ((-2 : Int32), o, a)) n 0 om tr = some (W, om', tr') ∧ ∀ k, k ≠ 22 → om' k = om k) → ∀ (oc : Nat → Int32), oc 1 = nI w → oc 2 = W →
        ∃ o' f3' f4'' b1 b2 b3 b4 q1 q2 q3 q4, fX8_search_L76 n (X 5) (X 6) (X 8) (X 9) (X 10) (X 11) (X 12) (X 15) (X 18) (X 19) (X 20) (fun a1 a2 a3 a4 a5 a6 a7 a8 a9 a10 a11 a12 => some ((upd a1 0 1), a2, a3, a4, a5, a6, a7, a8, a9, a10, a11, a12)) n 0 oc g3 f4' o1 w1 l1 bv p1 p2 p3 p4 (X 45) = some (o', f3', f4'', b1, b2, b3, b4, q1, q2, q3, q4, X 45) ∧ UC n o' f3' (M 15) ∧ o' 0 = 1 := by
      intro w W g3 hw hways hjudge oc oc1 oc2
      obtain ⟨w', o', f3', f4'', b1, b2, b3, b4, q1, q2, q3, q4, x1, x2, x3, x4, x5⟩ := wayHours hn hX hpo 31 0 n w oc g3 f4' o1 w1 l1 bv p1 p2 p3 p4 (by omega) (by omega) oc1 (by omega) (fun i hi => absurd hi (Nat.not_lt_zero i)) hN0
      refine ⟨upd o' 0 1, f3', f4'', b1, b2, b3, b4, q1, q2, q3, q4, x1, ⟨Or.inr (upd_s _ _ _), fun _ => ⟨⟨w', x2, by rw [upd_n _ _ (by decide)]; exact x3, fun om tr wc => ?_⟩, fun om tr => ?_⟩⟩, upd_s _ _ _⟩
      · obtain ⟨om1, tr1, wc1, y1, y2, y3⟩ := hways om tr wc
        obtain ⟨om2, tr2, wc2, z1, z2, z3⟩ := x5 n om1 tr1 wc1 (by omega) y2
        exact ⟨om2, tr2, wc2, y1.trans z1, fun k hk => (z3 k hk).trans (y3 k hk), z2⟩
      · obtain ⟨om', tr', y1, y2⟩ := hjudge om tr
        exact ⟨om', tr', by rw [upd_n _ _ (by decide), x4 2 (by decide), oc2]; exact y1, y2⟩
    rcases wrongS (n := n) hn hX (upd o 1 0) f4' with ⟨s, hs1, hs2, hs3, hs4⟩ | ⟨hs1, hs4⟩
    · obtain ⟨o', f3', f4'', b1, b2, b3, b4, q1, q2, q3, q4, x1, x2, x3⟩ := go 0 (nI s) f3 (by omega) (fun om tr wc => by
        obtain ⟨v, om', tr', z1, z2, z3, z4⟩ := soBy0 hn hX hpo om tr
        have v0 : v = 0 := by
          rcases z2 with z | z
          · exact z
          · exact absurd ((OKs.cg hX hs1 hA).mpr ((z3.mp z) s hs1)) hs2
        subst v0
        exact ⟨om', tr', wc, by rw [fX10_seekWays, z1, ob3_ss, if_pos i00]; rfl, fun i hi => absurd hi (Nat.not_lt_zero i), z4⟩) (fun om tr => by
        obtain ⟨R, om', tr', y1, y2, y3⟩ := judge_loop hn hX hpo S 0 n om tr (by omega) (by omega) (fun s hs => absurd hs (Nat.not_lt_zero s))
        refine ⟨om', tr', ?_, y2⟩
        have eR : R = nI s := by
          rcases y3 with ⟨s', t1, t2, t3, t4⟩ | ⟨t1, -⟩
          · have e : s' = s := by
              rcases Nat.lt_trichotomy s' s with q | q | q
              · exact absurd ((OKs.cg hX t1 hA).mp (hs3 s' q)) t2
              · exact q
              · exact absurd ((OKs.cg hX hs1 hA).mpr (t3 s q)) hs2
            rw [t4, e]
          · exact absurd ((OKs.cg hX hs1 hA).mpr (t1 s hs1)) hs2
        exact (show _ = _ from y1).trans (by rw [eR])) (upd (upd o 1 0) 2 (nI s)) rfl (upd_s _ _ _)
      refine ⟨o', f3', f4'', b1, b2, b3, b4, q1, q2, q3, q4, ?_, x2, x3⟩
      rw [fX8_search, if_pos h0, a1, ob3_ss, become_eq, ob3_ss, e1, ob6_ss, hs4, ob1_ss, if_neg (ne s (by omega)), fX8_addIf, if_pos i00, ob2_ss]
      exact x1
    · obtain ⟨o', f3', f4'', b1, b2, b3, b4, q1, q2, q3, q4, x1, x2, x3⟩ := go 1 (-2) (upd f3 0 (-2)) (by omega) (fun om tr wc => by
        obtain ⟨v, om', tr', z1, z2, z3, z4⟩ := soBy0 hn hX hpo om tr
        have v1 : v = 1 := z3.mpr (fun k hk => (OKs.cg hX hk hA).mp (hs1 k hk))
        subst v1
        refine ⟨om', tr', upd wc 0 (-2), by rw [fX10_seekWays, z1, ob3_ss, if_neg i10]; rfl, fun i hi => ?_, z4⟩
        have e : i = 0 := by omega
        subst e; rw [upd_s, upd_s]) (fun om tr => by
        obtain ⟨R, om', tr', y1, y2, y3⟩ := judge_loop hn hX hpo S 0 n om tr (by omega) (by omega) (fun s hs => absurd hs (Nat.not_lt_zero s))
        refine ⟨om', tr', ?_, y2⟩
        have eR : R = -2 := by
          rcases y3 with ⟨s', t1, t2, t3, t4⟩ | ⟨-, t2⟩
          · exact absurd ((OKs.cg hX t1 hA).mp (hs1 s' t1)) t2
          · exact t2
        exact (show _ = _ from y1).trans (by rw [eR])) (upd (upd (upd o 1 0) 2 (-2)) 1 (nI 1)) (upd_s _ _ _) (by rw [upd_n _ _ (by decide), upd_s])
      refine ⟨o', f3', f4'', b1, b2, b3, b4, q1, q2, q3, q4, ?_, x2, x3⟩
      rw [fX8_search, if_pos h0, a1, ob3_ss, become_eq, ob3_ss, e1, ob6_ss, hs4, ob1_ss, if_pos rfl, addS (w := 0) (by omega) (by rw [upd_n _ _ (by decide), upd_s]; rfl), ob2_ss]
      exact x1
  · exact ⟨o, f3, f4, bo, bw, bl, bv, t0, tw, tl, tv, by rw [fX8_search, h1, if_neg i10], hU, h1⟩
