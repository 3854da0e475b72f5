/-! the unseen cup: hours from the start on, by both -/
def PS (n G : Nat) (X : Nat → Nat → Int32) (r po : Nat → Int32) (q q' : Q4) : Prop :=
  NR G q'.1 q'.2.1 q'.2.2.1 q'.2.2.2 ∧ q'.2.2.2 14 = q.2.2.2 14 + 1 ∧
  (∀ o w la wl, NR G o w la q.2.2.2 → ∃ R o' w' la' wl', fX2_pass n o w la wl (X 5) (X 6) (X 8) (X 9) (X 10) (X 11) (X 12) po = some (R, o', w', la', wl', po) ∧ NR G o' w' la' q'.2.2.2) ∧
  (∀ om st, NR G q.1 q.2.1 q.2.2.1 st → ∃ R om' st', fX10_hourOf n om r st = some (R, om', st') ∧ (∀ k, k ≠ 22 → om' k = om k) ∧ NR G q'.1 q'.2.1 q'.2.2.1 st')
theorem ps_spec {n G D T N S c : Nat} (hn : 100 ≤ n) {X : Nat → Nat → Int32} {r : Nat → Int32} (hX : HX G D T N S X r) {po : Nat → Int32} (hpo : po 0 = 0) {q : Q4} (hN : NR G q.1 q.2.1 q.2.2.1 q.2.2.2) (hc : q.2.2.2 14 = nI c) (hcb : c ≤ 1000) : ∃ q', PS n G X r po q q' := by
  obtain ⟨R, o1, w1, la1, st1, a1, a2, -, a4, a5⟩ := pass_spec (n := n) (by omega) hX.1 hpo hN hc (by omega)
  refine ⟨(o1, w1, la1, st1), a1, by rw [hc, sI]; exact a2, fun o w la wl h => ?_, fun om st h => ?_⟩
  · obtain ⟨o', w', la', wl', e1, e2⟩ := a4 o w la wl h
    exact ⟨R, o', w', la', wl', e1, e2⟩
  · obtain ⟨om', st', e1, e2, e3⟩ := a5 om st h
    exact ⟨R, om', st', e1, e2, e3⟩
noncomputable def TJ (n G : Nat) (X : Nat → Nat → Int32) (r po : Nat → Int32) (q0 : Q4) : Nat → Q4
  | 0 => q0
  | h + 1 => Classical.epsilon (fun q' => PS n G X r po (TJ n G X r po q0 h) q')
theorem tj_spec {n G D T N S c : Nat} (hn : 100 ≤ n) {X : Nat → Nat → Int32} {r : Nat → Int32} (hX : HX G D T N S X r) {po : Nat → Int32} (hpo : po 0 = 0) {q0 : Q4} (hN : NR G q0.1 q0.2.1 q0.2.2.1 q0.2.2.2) (hc : q0.2.2.2 14 = nI c) (hcb : c ≤ 500) :
    ∀ h, h ≤ 200 → (NR G (TJ n G X r po q0 h).1 (TJ n G X r po q0 h).2.1 (TJ n G X r po q0 h).2.2.1 (TJ n G X r po q0 h).2.2.2 ∧ (TJ n G X r po q0 h).2.2.2 14 = nI (c + h)) ∧ PS n G X r po (TJ n G X r po q0 h) (TJ n G X r po q0 (h + 1)) := by
  intro h
  induction h with
  | zero =>
    intro _
    exact ⟨⟨hN, hc⟩, Classical.epsilon_spec (p := fun q' => PS n G X r po q0 q') (ps_spec hn hX hpo hN hc (by omega))⟩
  | succ h ih =>
    intro hh
    obtain ⟨⟨i1, i2⟩, i3⟩ := ih (by omega)
    have e14 : (TJ n G X r po q0 (h + 1)).2.2.2 14 = nI (c + (h + 1)) := by rw [i3.2.1, i2, sI]; exact congrArg nI (by omega)
    exact ⟨⟨i3.1, e14⟩, Classical.epsilon_spec (p := fun q' => PS n G X r po (TJ n G X r po q0 (h + 1)) q') (ps_spec hn hX hpo i3.1 e14 (by omega))⟩
def wake (X : Nat → Nat → Int32) (r : Nat → Int32) (q : Q4) (g : Nat) : Q4 := (q.1, upd q.2.1 g (q.2.1 g + X 5 1), q.2.2.1, upd q.2.2.2 g (q.2.2.2 g + r 1))
theorem wake_nr {G g : Nat} {X : Nat → Nat → Int32} {r : Nat → Int32} (hG : G ≤ 7) (hg : g < G) (x51 : X 5 1 = r 1) {o w la st : Nat → Int32} (h : NR G o w la st) : NR G o (upd w g (w g + X 5 1)) la (upd st g (st g + r 1)) := by
  have := h.want hG hg (w g + X 5 1)
  rw [show st g + r 1 = w g + X 5 1 by rw [h.2.2.2.1 g hg, x51]]
  exact this
theorem NR.th {G : Nat} (hG : G ≤ 7) {o w la o' w' la' st : Nat → Int32} (h : NR G o w la st) (h' : NR G o' w' la' st) : o 1 = o' 1 := by
  refine b_ext (fun i hi => ?_)
  by_cases q : i < G
  · have a := h.2.2.2.2.1 i q
    have b := h'.2.2.2.2.1 i q
    cases z : bt (o 1) i with
    | true => exact (b.mpr (a.mp z)).symm
    | false =>
      cases y : bt (o' 1) i with
      | false => rfl
      | true => rw [a.mpr (b.mp y)] at z; exact absurd z (by decide)
  · rw [h.2.2.2.2.2.2.2 i (by omega) hi, h'.2.2.2.2.2.2.2 i (by omega) hi]
/-- a sight is so -/
def OKs (X : Nat → Nat → Int32) (A : Nat → Int32) (k : Nat) : Prop := bt (A (X 19 k).toNatClampNeg) (X 18 k).toNatClampNeg = true ↔ X 20 k = 1
theorem follow_loop {n G D T N S c0 : Nat} (hn : 100 ≤ n) {X : Nat → Nat → Int32} {r : Nat → Int32} (hX : HX G D T N S X r) {po : Nat → Int32} (hpo : po 0 = 0) {q0 : Q4} (hN : NR G q0.1 q0.2.1 q0.2.2.1 q0.2.2.2) (hc : q0.2.2.2 14 = nI c0) (hcb : c0 ≤ 30) (oo f0 : Nat → Int32) (K : (Nat → Int32) → (Nat → Int32) → (Nat → Int32) → (Nat → Int32) → (Nat → Int32) → (Nat → Int32) → Option ((Nat → Int32) × (Nat → Int32) × (Nat → Int32) × (Nat → Int32) × (Nat → Int32) × (Nat → Int32))) :
    ∀ (j k fu : Nat) (f o w la wl : Nat → Int32), k + j = 31 → c0 ≤ k → j < fu → NR G o w la (TJ n G X r po q0 (k - c0)).2.2.2 → (∀ i, f i = if c0 ≤ i ∧ i < k then (TJ n G X r po q0 (i - c0)).1 1 else f0 i) →
      ∃ f' o' w' la' wl', fX8_follow_L6 n oo (X 5) (X 6) (X 8) (X 9) (X 10) (X 11) (X 12) K fu (nI k) f o w la wl po = K f' o' w' la' wl' po ∧ ∀ i, f' i = if c0 ≤ i ∧ i < 31 then (TJ n G X r po q0 (i - c0)).1 1 else f0 i := by
  have hG := hX.1.1
  have l30 : (30 : Int32) = nI 30 := rfl
  intro j
  induction j with
  | zero =>
    intro k fu f o w la wl hk hck hfu hN' hf
    obtain ⟨u, rfl⟩ : ∃ u, fu = u + 1 := ⟨fu - 1, by omega⟩
    have e : k = 31 := by omega
    subst e
    exact ⟨f, o, w, la, wl, by rw [fX8_follow_L6, if_neg (nI_pos (by omega)), l30, if_pos (nI_lt (by omega) (by omega))], hf⟩
  | succ j ih =>
    intro k fu f o w la wl hk hck hfu hN' hf
    obtain ⟨u, rfl⟩ : ∃ u, fu = u + 1 := ⟨fu - 1, by omega⟩
    obtain ⟨⟨t1, t2⟩, t3⟩ := tj_spec hn hX hpo hN hc (by omega) (k - c0) (by omega)
    obtain ⟨R, o1, w1, la1, wl1, e1, e2⟩ := t3.2.2.1 o w la wl hN'
    rw [fX8_follow_L6, if_neg (nI_pos (by omega)), l30, if_neg (nI_nlt (by omega) (by omega)), if_neg (ckI (by omega) (by omega)), clI (by omega), e1, ob6_ss, sI]
    refine ih (k + 1) u _ o1 w1 la1 wl1 (by omega) (by omega) (by omega) (by rw [show k + 1 - c0 = k - c0 + 1 by omega]; exact e2) (fun i => ?_)
    by_cases e : i = k
    · subst e
      rw [upd_s, if_pos ⟨hck, by omega⟩]; exact hN'.th hG t1
    · rw [upd_n _ _ e, hf i]
      by_cases q : c0 ≤ i ∧ i < k
      · rw [if_pos q, if_pos ⟨q.1, by omega⟩]
      · rw [if_neg q, if_neg (fun z => q ⟨z.1, by omega⟩)]
theorem followS {n G D T N S c0 : Nat} (hn : 100 ≤ n) {X : Nat → Nat → Int32} {r : Nat → Int32} (hX : HX G D T N S X r) {po : Nat → Int32} (hpo : po 0 = 0) {q0 : Q4} (hN : NR G q0.1 q0.2.1 q0.2.2.1 q0.2.2.2) (hc : q0.2.2.2 14 = nI c0) (hcb : c0 ≤ 30) (oo f0 o w la wl : Nat → Int32) (hN' : NR G o w la q0.2.2.2) :
    ∃ f' o' w' la' wl', fX8_follow n oo f0 o w la wl (X 5) (X 6) (X 8) (X 9) (X 10) (X 11) (X 12) po = some (f', o', w', la', wl', po) ∧ ∀ i, f' i = if c0 ≤ i ∧ i < 31 then (TJ n G X r po q0 (i - c0)).1 1 else f0 i := by
  obtain ⟨f', o', w', la', wl', e1, e2⟩ := follow_loop hn hX hpo hN hc hcb oo f0 (fun a b c d e f => some (a, b, c, d, e, f)) (31 - c0) c0 n f0 o w la wl (by omega) (Nat.le_refl _) (by omega) (by rw [Nat.sub_self]; exact hN') (fun i => by rw [if_neg (fun q => by omega)])
  exact ⟨f', o', w', la', wl', by rw [fX8_follow, hN'.1, hc]; exact e1, e2⟩
/-- sights by numbers -/
theorem sight {G D T N S k : Nat} {X : Nat → Nat → Int32} {r : Nat → Int32} (hX : HX G D T N S X r) (hk : k < S) : ∃ h g, h ≤ 30 ∧ g < G ∧ X 19 k = nI h ∧ X 18 k = nI g ∧ r (104 + 3 * k) = nI g ∧ r (104 + 3 * k + 1) = nI h ∧ (X 19 k).toNatClampNeg = h ∧ (X 18 k).toNatClampNeg = g ∧ ((X 20 k = 1 ∧ r (104 + 3 * k + 2) = 0) ∨ (X 20 k = 0 ∧ r (104 + 3 * k + 2) = 1)) := by
  obtain ⟨-, -, -, -, -, -, -, -, -, -, -, -, -, -, -, -, -, -, -, -, -, -, -, -, -, -, -, -, -, -, -, esi, bsi⟩ := id hX
  have hG := hX.1.1
  obtain ⟨e1, e2, e3⟩ := esi k hk
  obtain ⟨⟨g, hg, eg⟩, h, hh, eh⟩ := bsi k hk
  exact ⟨h, g, hh, hg, e2.trans eh, e1.trans eg, eg, eh, by rw [e2, eh, clI (by omega)], by rw [e1, eg, clI (by omega)], e3⟩
theorem wrong_loop {n G D T N S : Nat} {X : Nat → Nat → Int32} {r : Nat → Int32} (hX : HX G D T N S X r) (oo A : Nat → Int32) :
    ∀ (j k f : Nat), k + j = S → j < f → (∀ s, s < k → OKs X A s) →
      (∃ s, s < S ∧ ¬ OKs X A s ∧ (∀ t, t < s → OKs X A t) ∧ fX8_firstWrong_L2 n oo A (X 15) (X 18) (X 19) (X 20) (fun _ => some (-2)) f (nI k) = some (nI s)) ∨ ((∀ s, s < S → OKs X A s) ∧ fX8_firstWrong_L2 n oo A (X 15) (X 18) (X 19) (X 20) (fun _ => some (-2)) f (nI k) = some (-2)) := by
  have hG := hX.1.1
  have hS6 : S ≤ 6 := hX.2.2.2.2.1
  have e153 : X 15 3 = nI S := hX.2.2.2.2.2.2.2.2.2.2.2.2.2.1
  have l30 : (30 : Int32) = nI 30 := rfl
  intro j
  induction j with
  | zero =>
    intro k f hk hf hno
    obtain ⟨u, rfl⟩ : ∃ u, f = u + 1 := ⟨f - 1, by omega⟩
    exact Or.inr ⟨fun s hs => hno s (by omega), by rw [fX8_firstWrong_L2, e153, if_pos (nI_le (by omega) (by omega))]⟩
  | succ j ih =>
    intro k f hk hf hno
    obtain ⟨u, rfl⟩ : ∃ u, f = u + 1 := ⟨f - 1, by omega⟩
    obtain ⟨h, g, hh, hg, s1, s2, s3, s4, s5, s6, s7⟩ := sight hX (show k < S by omega)
    rw [fX8_firstWrong_L2, e153, if_neg (nI_ge (by omega) (by omega)), if_neg (ckI (k := k) (by omega) (by omega)), clI (k := k) (by omega), s1, sI]
    dsimp only [jn]
    rw [if_neg (nI_pos (by omega)), l30, if_neg (nI_nlt (by omega) (by omega)), if_neg i10, if_neg (ckI (k := h) (by omega) (by omega)), if_neg (ckK (k := k) (by omega) (by omega)), if_neg (ckK (k := k) (by omega) (by omega)), clI (k := h) (by omega), s2, bit_eq _ g (by omega)]
    have ok : ((if bt (A h) g = true then (1 : Int32) else 0) = X 20 k) ↔ OKs X A k := by
      unfold OKs
      rw [s5, s6]
      rcases s7 with ⟨z, -⟩ | ⟨z, -⟩
      · rw [z]
        cases bt (A h) g
        · exact ⟨fun q => absurd q (by decide), fun q => absurd (q.mpr rfl) (by decide)⟩
        · exact ⟨fun _ => ⟨fun _ => rfl, fun _ => rfl⟩, fun _ => rfl⟩
      · rw [z]
        cases bt (A h) g
        · exact ⟨fun _ => ⟨fun q => absurd q (by decide), fun q => absurd q (by decide)⟩, fun _ => rfl⟩
        · exact ⟨fun q => absurd q (by decide), fun q => absurd (q.mp rfl) (by decide)⟩
    by_cases hq : OKs X A k
    · rw [if_pos (ok.mpr hq)]
      exact ih (k + 1) u (by omega) (by omega) (fun s hs => by
        by_cases e : s = k
        · subst e; exact hq
        · exact hno s (by omega))
    · rw [if_neg (fun z => hq (ok.mp z))]
      exact Or.inl ⟨k, by omega, hq, hno, rfl⟩
theorem wrongS {n G D T N S : Nat} (hn : 100 ≤ n) {X : Nat → Nat → Int32} {r : Nat → Int32} (hX : HX G D T N S X r) (oo A : Nat → Int32) :
    (∃ s, s < S ∧ ¬ OKs X A s ∧ (∀ t, t < s → OKs X A t) ∧ fX8_firstWrong n oo A (X 15) (X 18) (X 19) (X 20) = some (nI s)) ∨ ((∀ s, s < S → OKs X A s) ∧ fX8_firstWrong n oo A (X 15) (X 18) (X 19) (X 20) = some (-2)) := by
  have hS6 : S ≤ 6 := hX.2.2.2.2.1
  rw [fX8_firstWrong]
  exact wrong_loop hX oo A S 0 n (by omega) (by omega) (fun s hs => absurd hs (Nat.not_lt_zero s))
/-- what was seen at one hour, by the reference -/
theorem isSoS {n G D T N S h : Nat} (hn : 100 ≤ n) {X : Nat → Nat → Int32} {r : Nat → Int32} (hX : HX G D T N S X r) (hh : h ≤ 30) {q : Q4} (om : Nat → Int32) {st A : Nat → Int32} (hN : NR G q.1 q.2.1 q.2.2.1 st) (hA : A h = q.1 1) :
    ∃ v : Int32, (v = 0 ∨ v = 1) ∧ fX10_isSo n (nI h) om r st = some v ∧ (v = 1 ↔ ∀ k, k < S → (X 19 k).toNatClampNeg = h → OKs X A k) := by
  have hG := hX.1.1
  have hS6 : S ≤ 6 := hX.2.2.2.2.1
  have e8 : r 8 = nI S := hX.2.2.2.2.2.2.2.2.2.2.2.2.2.2.1
  have l104 : (104 : Int32) = nI 104 := rfl
  have l3 : (3 : Int32) = nI 3 := rfl
  have loop : ∀ (j k f : Nat) (x : Int32), k + j = S → j < f → (x = 0 ∨ x = 1) → (x = 1 ↔ ∀ t, t < k → (X 19 t).toNatClampNeg = h → OKs X A t) → ∃ v : Int32, (v = 0 ∨ v = 1) ∧ fX10_isSo_L5 n (nI h) om r st (fun x => if ¬ (x = 0 ∨ x = 1) then none else some x) f x (nI k) = some v ∧ (v = 1 ↔ ∀ k, k < S → (X 19 k).toNatClampNeg = h → OKs X A k) := by
    intro j
    induction j with
    | zero =>
      intro k f x hk hf hx hx2
      obtain ⟨u, rfl⟩ : ∃ u, f = u + 1 := ⟨f - 1, by omega⟩
      have e : k = S := by omega
      subst e
      exact ⟨x, hx, by rw [fX10_isSo_L5, e8, if_pos (nI_le (by omega) (by omega)), if_neg (fun q => q hx)], hx2⟩
    | succ j ih =>
      intro k f x hk hf hx hx2
      obtain ⟨u, rfl⟩ : ∃ u, f = u + 1 := ⟨f - 1, by omega⟩
      obtain ⟨h1, g, hh1, hg, s1, s2, s3, s4, s5, s6, s7⟩ := sight hX (show k < S by omega)
      have i0 : (104 : Int32) + ((3 : Int32) * nI k) = nI (104 + 3 * k) := by rw [l104, l3, mulI, addI]
      have i1 : nI (104 + 3 * k) + (1 : Int32) = nI (104 + 3 * k + 1) := sI _
      have i2 : nI (104 + 3 * k) + (2 : Int32) = nI (104 + 3 * k + 2) := by rw [lz2, addI]
      have ext : ∀ y : Int32, (y = 0 ∨ y = 1) → (y = 1 ↔ (x = 1 ∧ ((X 19 k).toNatClampNeg = h → OKs X A k))) → (y = 1 ↔ ∀ t, t < k + 1 → (X 19 t).toNatClampNeg = h → OKs X A t) := fun y _ hy => by
        rw [hy, hx2]
        exact ⟨fun z t ht he => by
          by_cases e : t = k
          · subst e; exact z.2 he
          · exact z.1 t (by omega) he, fun z => ⟨fun t ht => z t (by omega), z k (by omega)⟩⟩
      rw [fX10_isSo_L5, e8, if_neg (nI_ge (by omega) (by omega)), i0, i1, i2, sI]
      rcases hx with rfl | rfl
      · rw [if_pos i00]
        exact ih (k + 1) u 0 (by omega) (by omega) (Or.inl rfl) (ext 0 (Or.inl rfl) ⟨fun z => absurd z (by decide), fun z => absurd z.1 (by decide)⟩)
      · rw [if_neg i10, if_neg (ckI (k := 104 + 3 * k + 1) (by omega) (by omega)), clI (k := 104 + 3 * k + 1) (by omega), s4]
        by_cases he : h1 = h
        · subst he
          have ok : OKs X A k ↔ (bt (q.1 1) g = true ↔ X 20 k = 1) := by unfold OKs; rw [s5, s6, hA]
          rw [if_pos rfl, if_neg (ckI (k := 104 + 3 * k) (by omega) (by omega)), clI (k := 104 + 3 * k) (by omega), s3, isInS n st (by omega), ob1_ss, if_neg (ckI (k := 104 + 3 * k + 2) (by omega) (by omega)), clI (k := 104 + 3 * k + 2) (by omega)]
          have hth := hN.2.2.2.2.1 g hg
          rcases s7 with ⟨z1, z2⟩ | ⟨z1, z2⟩
          · rw [z2, if_neg (show ¬ (0 : Int32) = 1 by decide)]
            by_cases hin : st (7 + g) = 0
            · rw [if_pos hin, if_neg i10]
              exact ih (k + 1) u 1 (by omega) (by omega) (Or.inr rfl) (ext 1 (Or.inr rfl) ⟨fun _ => ⟨rfl, fun _ => ok.mpr ⟨fun _ => z1, fun _ => hth.mpr hin⟩⟩, fun _ => rfl⟩)
            · rw [if_neg hin, if_pos i00]
              exact ih (k + 1) u 0 (by omega) (by omega) (Or.inl rfl) (ext 0 (Or.inl rfl) ⟨fun z => absurd z (by decide), fun z => absurd (hth.mp ((ok.mp (z.2 s5)).mpr z1)) hin⟩)
          · rw [z2, if_pos rfl]
            by_cases hin : st (7 + g) = 0
            · rw [if_pos hin, if_pos rfl]
              exact ih (k + 1) u 0 (by omega) (by omega) (Or.inl rfl) (ext 0 (Or.inl rfl) ⟨fun z => absurd z (by decide), fun z => absurd ((ok.mp (z.2 s5)).mp (hth.mpr hin)) (by rw [z1]; decide)⟩)
            · rw [if_neg hin, if_neg (show ¬ (0 : Int32) = 1 by decide)]
              exact ih (k + 1) u 1 (by omega) (by omega) (Or.inr rfl) (ext 1 (Or.inr rfl) ⟨fun _ => ⟨rfl, fun _ => ok.mpr ⟨fun z => absurd (hth.mp z) hin, fun z => absurd (z1.symm.trans z) (by decide)⟩⟩, fun _ => rfl⟩)
        · rw [if_neg (fun z => he (nI_inj (by omega) (by omega) z))]
          exact ih (k + 1) u 1 (by omega) (by omega) (Or.inr rfl) (ext 1 (Or.inr rfl) ⟨fun _ => ⟨rfl, fun z => absurd (s5.symm.trans z) he⟩, fun _ => rfl⟩)
  rw [fX10_isSo]
  exact loop S 0 n 1 (by omega) (by omega) (Or.inr rfl) ⟨fun _ t ht => absurd ht (Nat.not_lt_zero t), fun _ => rfl⟩
/-- the reference's run with a cup at x1 for g, or none -/
theorem soRun {n G D T N S g : Nat} (hn : 100 ≤ n) {X : Nat → Nat → Int32} {r po : Nat → Int32} (hX : HX G D T N S X r) (hg : g < G) (x1 : Int32) (St : Nat → Q4) (hSt : ∀ i, i ≤ 30 → (¬ nI i = x1 → PS n G X r po (St i) (St (i + 1))) ∧ (nI i = x1 → PS n G X r po (wake X r (St i) g) (St (i + 1)))) :
    ∀ (j t f : Nat) (om st : Nat → Int32), t + j = 31 → j < f → NR G (St t).1 (St t).2.1 (St t).2.2.1 st → ∃ (v : Int32) (om' st' : Nat → Int32), fX10_isSoBy_L10 n x1 (nI g) r (fun o a => some (1, o, a)) f (nI t) om st = some (v, om', st') ∧ (v = 0 ∨ v = 1) ∧ (v = 1 ↔ (∀ k, k < S → t ≤ (X 19 k).toNatClampNeg → OKs X (fun i => (St i).1 1) k) ∧ ∀ i, t ≤ i → i ≤ 30 → nI i = x1 → bt ((St i).1 1) g = true) ∧ (∀ k, k ≠ 22 → om' k = om k) := by
  have hG := hX.1.1
  have l30 : (30 : Int32) = nI 30 := rfl
  have x51 : X 5 1 = r 1 := hX.2.2.2.2.2.2.1
  intro j
  induction j with
  | zero =>
    intro t f om st ht hf hN
    obtain ⟨u, rfl⟩ : ∃ u, f = u + 1 := ⟨f - 1, by omega⟩
    refine ⟨1, om, st, by rw [fX10_isSoBy_L10, l30, if_pos (nI_lt (by omega) (by omega))], Or.inr rfl, ⟨fun _ => ⟨fun k hk hle => ?_, fun i h1 h2 => by omega⟩, fun _ => rfl⟩, fun _ _ => rfl⟩
    obtain ⟨h1, g, hh1, -, -, -, -, -, s5, -⟩ := sight hX hk
    omega
  | succ j ih =>
    intro t f om st ht hf hN
    obtain ⟨u, rfl⟩ : ∃ u, f = u + 1 := ⟨f - 1, by omega⟩
    obtain ⟨v0, hv0, e1, e2⟩ := isSoS (n := n) (A := fun i => (St i).1 1) hn hX (show t ≤ 30 by omega) om hN rfl
    rw [fX10_isSoBy_L10, l30, if_neg (nI_nlt (by omega) (by omega)), e1, ob1_ss]
    rcases hv0 with rfl | rfl
    · rw [if_pos i00]
      refine ⟨0, om, st, rfl, Or.inl rfl, ⟨fun z => absurd z (by decide), fun z => ?_⟩, fun _ _ => rfl⟩
      exact e2.mpr (fun k hk he => z.1 k hk (by omega))
    · have okt := e2.mp rfl
      rw [if_neg i10]
      have fin : ∀ (v : Int32), (v = 1 ↔ (∀ k, k < S → t + 1 ≤ (X 19 k).toNatClampNeg → OKs X (fun i => (St i).1 1) k) ∧ ∀ i, t + 1 ≤ i → i ≤ 30 → nI i = x1 → bt ((St i).1 1) g = true) → (nI t = x1 → bt ((St t).1 1) g = true) → (v = 1 ↔ (∀ k, k < S → t ≤ (X 19 k).toNatClampNeg → OKs X (fun i => (St i).1 1) k) ∧ ∀ i, t ≤ i → i ≤ 30 → nI i = x1 → bt ((St i).1 1) g = true) := fun v hv ht1 => by
        rw [hv]
        exact ⟨fun z => ⟨fun k hk hle => by
          by_cases e : (X 19 k).toNatClampNeg = t
          · exact okt k hk e
          · exact z.1 k hk (by omega), fun i h1 h2 h3 => by
          by_cases e : i = t
          · subst e; exact ht1 h3
          · exact z.2 i (by omega) h2 h3⟩, fun z => ⟨fun k hk hle => z.1 k hk (by omega), fun i h1 h2 h3 => z.2 i (by omega) h2 h3⟩⟩
      by_cases hx : nI t = x1
      · rw [if_pos hx, isInS n st (by omega), ob1_ss]
        have hth := hN.2.2.2.2.1 g hg
        by_cases hin : st (7 + g) = 0
        · obtain ⟨R, om1, st1, p1, p2, p3⟩ := ((hSt t (by omega)).2 hx).2.2.2 om (upd st g (st g + r 1)) (wake_nr hG hg x51 hN)
          obtain ⟨v, om', st', y1, y2, y3, y4⟩ := ih (t + 1) u om1 st1 (by omega) (by omega) p3
          refine ⟨v, om', st', ?_, y2, fin v y3 (fun _ => hth.mpr hin), fun k hk => (y4 k hk).trans (p2 k hk)⟩
          rw [if_pos hin, if_neg i10, if_neg (ckI (k := g) (by omega) (by omega)), if_neg (ckI (k := g) (by omega) (by omega)), clI (k := g) (by omega), p1, ob3_ss, sI, y1]
        · rw [if_neg hin, if_pos i00]
          exact ⟨0, om, st, rfl, Or.inl rfl, ⟨fun z => absurd z (by decide), fun z => absurd (hth.mp (z.2 t (Nat.le_refl _) (by omega) hx)) hin⟩, fun _ _ => rfl⟩
      · obtain ⟨R, om1, st1, p1, p2, p3⟩ := ((hSt t (by omega)).1 hx).2.2.2 om st hN
        obtain ⟨v, om', st', y1, y2, y3, y4⟩ := ih (t + 1) u om1 st1 (by omega) (by omega) p3
        refine ⟨v, om', st', ?_, y2, fin v y3 (fun z => absurd z hx), fun k hk => (y4 k hk).trans (p2 k hk)⟩
        rw [if_neg hx, p1, ob3_ss, sI, y1]
/-! the start of an evening, by both -/
def stS (G : Nat) (r : Nat → Int32) : Nat → Int32 := fun i => if i < G then r (9 + 4 * i + 1) else if i = 15 then r 0 else 0
def qS (G : Nat) (X : Nat → Nat → Int32) (r : Nat → Int32) : Q4 := (upd (upd (upd (upd (fun _ => 0) 0 0) 1 (mask G)) 2 (X 5 0)) 3 0, X 7, fun _ => -2, stS G r)
theorem beginS {n G : Nat} (hn : 10 ≤ n) (hG : G ≤ 7) {o w la ho fw : Nat → Int32} (h3 : ho 3 = nI G) : ∃ o' w' la', fX2_begin n o w la ho fw = some (o', w', la') ∧ o' 0 = 0 ∧ o' 1 = mask G ∧ o' 2 = ho 0 ∧ o' 3 = 0 ∧ (∀ g, g < G → w' g = fw g) ∧ ∀ g, g < G → la' g = -2 := by
  have loop : ∀ (oo : Nat → Int32) (K : (Nat → Int32) → (Nat → Int32) → Option ((Nat → Int32) × (Nat → Int32) × (Nat → Int32))) (j k f : Nat) (w la : Nat → Int32), k + j = G → j < f → (∀ g, g < k → w g = fw g ∧ la g = -2) → ∃ w' la', (∀ g, g < G → w' g = fw g ∧ la' g = -2) ∧ fX2_begin_L32 n oo ho fw K f (nI k) w la = K w' la' := by
    intro oo K j
    induction j with
    | zero =>
      intro k f w la hk hf h
      obtain ⟨u, rfl⟩ : ∃ u, f = u + 1 := ⟨f - 1, by omega⟩
      exact ⟨w, la, fun g hg => h g (by omega), by rw [fX2_begin_L32, h3, if_pos (nI_le (by omega) (by omega))]⟩
    | succ j ih =>
      intro k f w la hk hf h
      obtain ⟨u, rfl⟩ : ∃ u, f = u + 1 := ⟨f - 1, by omega⟩
      rw [fX2_begin_L32, h3, if_neg (nI_ge (by omega) (by omega)), if_neg (ckI (by omega) (by omega)), if_neg (ckI (by omega) (by omega)), if_neg (ckI (by omega) (by omega)), clI (by omega), sI]
      refine ih (k + 1) u _ _ (by omega) (by omega) (fun g hg => ?_)
      by_cases e : g = k
      · subst e; rw [upd_s, upd_s]; exact ⟨rfl, rfl⟩
      · rw [upd_n _ _ e, upd_n _ _ e]; exact h g (by omega)
  obtain ⟨w', la', h1, h2⟩ := loop (upd (upd (upd (upd o 0 0) 1 (mask G)) 2 (ho 0)) 3 0) (fun a b => some (upd (upd (upd (upd o 0 0) 1 (mask G)) 2 (ho 0)) 3 0, a, b)) G 0 n w la (by omega) (by omega) (fun g hg => absurd hg (Nat.not_lt_zero g))
  refine ⟨_, w', la', by rw [fX2_begin, h3]; exact h2, rfl, rfl, rfl, rfl, fun g hg => (h1 g hg).1, fun g hg => (h1 g hg).2⟩
theorem layS {n G : Nat} (hn : 100 ≤ n) (hG : G ≤ 7) {om r : Nat → Int32} (h3 : r 3 = nI G) (st : Nat → Int32) : ∃ st', fX10_layTold n om r st = some st' ∧ ∀ i, i < 17 → st' i = stS G r i := by
  have l17 : (17 : Int32) = nI 17 := rfl
  have z : ∀ (K : (Nat → Int32) → Option (Nat → Int32)) (j k f : Nat) (s : Nat → Int32), k + j = 17 → j < f → (∀ i, i < k → s i = 0) → ∃ s', (∀ i, i < 17 → s' i = 0) ∧ fX10_layTold_L2 n K f (nI k) s = K s' := by
    intro K j
    induction j with
    | zero =>
      intro k f s hk hf h
      obtain ⟨u, rfl⟩ : ∃ u, f = u + 1 := ⟨f - 1, by omega⟩
      exact ⟨s, fun i hi => h i (by omega), by rw [fX10_layTold_L2, l17, if_pos (nI_le (by omega) (by omega))]⟩
    | succ j ih =>
      intro k f s hk hf h
      obtain ⟨u, rfl⟩ : ∃ u, f = u + 1 := ⟨f - 1, by omega⟩
      rw [fX10_layTold_L2, l17, if_neg (nI_ge (by omega) (by omega)), if_neg (ckI (by omega) (by omega)), clI (by omega), sI]
      refine ih (k + 1) u _ (by omega) (by omega) (fun i hi => ?_)
      by_cases e : i = k
      · subst e; rw [upd_s]
      · rw [upd_n _ _ e]; exact h i (by omega)
  have y : ∀ (K : (Nat → Int32) → Option (Nat → Int32)) (j k f : Nat) (s : Nat → Int32), k + j = G → j < f → (∀ i, i < 17 → s i = if i < k then r (9 + 4 * i + 1) else 0) → ∃ s', (∀ i, i < 17 → s' i = if i < G then r (9 + 4 * i + 1) else 0) ∧ fX10_layTold_L20 n om r K f (nI k) s = K s' := by
    intro K j
    induction j with
    | zero =>
      intro k f s hk hf h
      obtain ⟨u, rfl⟩ : ∃ u, f = u + 1 := ⟨f - 1, by omega⟩
      have e : k = G := by omega
      subst e
      exact ⟨s, h, by rw [fX10_layTold_L20, h3, if_pos (nI_le (by omega) (by omega))]⟩
    | succ j ih =>
      intro k f s hk hf h
      obtain ⟨u, rfl⟩ : ∃ u, f = u + 1 := ⟨f - 1, by omega⟩
      rw [fX10_layTold_L20, h3, if_neg (nI_ge (by omega) (by omega)), show (((9 : Int32) + ((4 : Int32) * nI k)) + (1 : Int32)) = nI (9 + 4 * k + 1) from idx_r (c := 1) (by omega) (by omega), if_neg (ckI (k := 9 + 4 * k + 1) (by omega) (by omega)), if_neg (ckI (k := k) (by omega) (by omega)), clI (k := k) (by omega), clI (k := 9 + 4 * k + 1) (by omega), sI]
      refine ih (k + 1) u _ (by omega) (by omega) (fun i hi => ?_)
      by_cases e : i = k
      · subst e; rw [upd_s, if_pos (by omega)]
      · rw [upd_n _ _ e, h i hi]
        by_cases q : i < k
        · rw [if_pos q, if_pos (by omega)]
        · rw [if_neg q, if_neg (by omega)]
  obtain ⟨s1, a1, a2⟩ := z (fun f => fX10_layTold_L20 n om r (fun g => some (upd g 15 (r 0))) n 0 f) 17 0 n st (by omega) (by omega) (fun i hi => absurd hi (Nat.not_lt_zero i))
  obtain ⟨s2, b1, b2⟩ := y (fun g => some (upd g 15 (r 0))) G 0 n s1 (by omega) (by omega) (fun i hi => by rw [a1 i hi, if_neg (Nat.not_lt_zero i)])
  refine ⟨upd s2 15 (r 0), by rw [fX10_layTold]; exact a2.trans b2, fun i hi => ?_⟩
  unfold stS
  by_cases e : i = 15
  · subst e; rw [upd_s, if_neg (by omega), if_pos rfl]
  · rw [upd_n _ _ e, b1 i hi]
    by_cases q : i < G
    · rw [if_pos q, if_pos q]
    · rw [if_neg q, if_neg q, if_neg e]
theorem qS_nr {G D T N S : Nat} {X : Nat → Nat → Int32} {r : Nat → Int32} (hX : HX G D T N S X r) : NR G (qS G X r).1 (qS G X r).2.1 (qS G X r).2.2.1 (qS G X r).2.2.2 := by
  have hG := hX.1.1
  have x50 : X 5 0 = r 0 := hX.2.2.2.2.2.1
  have ew := hX.2.2.2.2.2.2.2.2.2.2.2.2.2.2.2.2.2.2.2.1
  refine ⟨?_, ?_, trivial, fun g hg => ?_, fun g hg => ?_, fun g hg hb => ?_, fun _ _ _ => rfl, fun i h1 h2 => ?_⟩
  · show (0 : Int32) = stS G r 14
    rw [stS, if_neg (by omega), if_neg (by decide)]
  · show X 5 0 = stS G r 15
    rw [stS, if_neg (by omega), if_pos rfl]; exact x50
  · show X 7 g = stS G r g
    rw [stS, if_pos hg]; exact ew g hg
  · show bt (mask G) g = true ↔ stS G r (7 + g) = 0
    rw [b_all G hG g (by omega), stS, if_neg (by omega), if_neg (by omega)]
    simp [hg]
  · have hb : bt (mask G) g = false := hb
    rw [b_all G hG g (by omega)] at hb
    simp at hb; omega
  · show bt (mask G) i = false
    rw [b_all G hG i h2]; exact decide_eq_false (by omega)
