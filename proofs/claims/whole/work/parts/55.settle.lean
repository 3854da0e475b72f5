/-! the rounds of leaving, by both -/
def cnt (P : Nat → Bool) : Nat → Nat
  | 0 => 0
  | n + 1 => cnt P n + (if P n = true then 1 else 0)
theorem cnt_mono {P Q : Nat → Bool} : ∀ {n : Nat}, (∀ i, i < n → Q i = true → P i = true) → cnt Q n ≤ cnt P n
  | 0, _ => Nat.le_refl _
  | n + 1, h => by
    have h1 := cnt_mono (n := n) (fun i hi => h i (by omega))
    rw [cnt, cnt]
    by_cases q : Q n = true
    · rw [if_pos q, if_pos (h n (by omega) q)]; omega
    · rw [if_neg q]; omega
theorem cnt_drop {P Q : Nat → Bool} : ∀ {n j : Nat}, j < n → P j = true → Q j = false → (∀ i, i < n → Q i = true → P i = true) → cnt Q n + 1 ≤ cnt P n
  | 0, _, h, _, _, _ => absurd h (Nat.not_lt_zero _)
  | n + 1, j, hj, hp, hq, h => by
    rw [cnt, cnt]
    by_cases e : j = n
    · subst e
      have h1 := cnt_mono (n := j) (P := P) (Q := Q) (fun i hi => h i (by omega))
      rw [if_pos hp, hq, if_neg (by decide)]; omega
    · have h1 := cnt_drop (n := n) (j := j) (by omega) hp hq (fun i hi => h i (by omega))
      by_cases q : Q n = true
      · rw [if_pos q, if_pos (h n (by omega) q)]; omega
      · rw [if_neg q]; omega
theorem cnt_zero {P : Nat → Bool} : ∀ {n : Nat}, cnt P n = 0 → ∀ i, i < n → P i = false
  | 0, _, i, h => absurd h (Nat.not_lt_zero i)
  | n + 1, h, i, hi => by
    rw [cnt] at h
    by_cases q : P n = true
    · rw [if_pos q] at h; omega
    · by_cases e : i = n
      · subst e; cases h2 : P i <;> simp_all
      · exact cnt_zero (n := n) (by omega) i (by omega)
abbrev mask (G : Nat) : Int32 := ((1 : Int32) <<< (nI G &&& 31)) - (1 : Int32)
/-- what each wants with those who draw him -/
abbrev wsum (D : Nat) (o dg dr dm : Nat → Int32) (g : Nat) : Int32 := sm (fun d => if dg d = nI g ∧ ((o 1 >>> (dr d &&& 31)) &&& (1 : Int32)) = 1 then dm d else 0) D
/-- nobody is unwilling -/
def SET (G D : Nat) (o w kind dg dr dm : Nat → Int32) : Prop := ∀ g, g < G → (bt (o 1) g && decide (w g + wsum D o dg dr dm g ≤ 0) && !(decide (o 1 = mask G) && decide (kind g = 1))) = false
theorem who_lock {n G D : Nat} (hn : 10 ≤ n) {o w la u ho kind sinks mate dg dr dm r st : Nat → Int32} (hH : HR G D ho kind sinks mate dg dr dm r) (hN : NR G o w la st) (hu : ∀ g, g < G → u g = w g + wsum D o dg dr dm g) :
    ∃ X, fX2_unwilling n o u ho kind = some X ∧ (∀ i, i < 32 → bt X i = (decide (i < G) && uP o u kind (decide (o 1 = mask G)) i)) ∧
      ∀ (x2 : Int32) (om : Nat → Int32) (K : Int32 → Option (Int32 × (Nat → Int32) × (Nat → Int32))), ob1 (fX10_thereOf n om r st) (fun (u_2 : Int32) => if u_2 = (((1 : Int32) <<< ((r 3) &&& 31)) - (1 : Int32)) then fX10_leaves_L44 n x2 (0 : Int32) om r st K n (0 : Int32) (0 : Int32) else fX10_leaves_L44 n x2 (1 : Int32) om r st K n (0 : Int32) (0 : Int32)) = K X := by
  have hG : G ≤ 7 := hH.1
  have h3 : ho 3 = nI G := hH.2.1
  have hr3 : r 3 = nI G := hH.2.2.1
  have hkind := hH.2.2.2.2.1
  obtain ⟨n0, n2, n3, nw, nth, nla, nlb, nout⟩ := id hN
  have z : ∀ (P : Nat → Bool), ∀ i, i < 32 → bt (nI 0) i = (decide (i < 0) && P i) := fun P i _ => by
    rw [show nI 0 = (0 : Int32) from rfl, b_0]; simp
  obtain ⟨X, hX, e1⟩ := unw_loop (n := n) (o := o) (will := u) (kind := kind) hG h3 (decide (o 1 = mask G)) _ rfl (fun x => some x) G 0 n (nI 0) (by omega) (by omega) (z _)
  refine ⟨X, ?_, hX, ?_⟩
  · rw [fX2_unwilling, h3, lz0]
    by_cases hm : o 1 = mask G
    · rw [if_pos hm]
      rw [show (if decide (o 1 = mask G) = true then (1 : Int32) else 0) = 1 by simp [hm]] at e1
      exact e1
    · rw [if_neg hm]
      rw [show (if decide (o 1 = mask G) = true then (1 : Int32) else 0) = 0 by simp [hm]] at e1
      exact e1
  · intro x2 om K
    rw [thereOfS (T := o 1) (by omega) hG hr3 nth nout, ob1_ss, hr3, lz0]
    have hW : ∀ a, a < G → u a = st a + sm (fun b => if b ≠ a ∧ st (7 + b) = 0 then r (37 + 7 * a + b) else 0) G := fun a ha => by
      rw [hu a ha, nw a ha]
      exact congrArg (fun t => st a + t) (wills_eq hH hN ha)
    obtain ⟨Y, hY, e2⟩ := lvs_loop (n := n) (by omega) hG (o := om) (st := st) hr3 (!decide (o 1 = mask G)) _ rfl x2 K u hW G 0 n (nI 0) (by omega) (by omega) (z _)
    have e : Y = X := by
      refine b_ext (fun i hi => ?_)
      rw [hY i hi, hX i hi]
      by_cases h : i < G
      · have q : bt (o 1) i = decide (st (7 + i) = 0) := by
          by_cases p : st (7 + i) = 0
          · rw [(nth i h).mpr p]; simp [p]
          · have : bt (o 1) i = false := by
              cases t : bt (o 1) i with
              | false => rfl
              | true => exact absurd ((nth i h).mp t) p
            rw [this]; simp [p]
        simp only [mP, uP, q, hkind i h, Bool.not_and]
      · simp [h]
    subst e
    by_cases hm : o 1 = mask G
    · rw [if_pos hm]
      rw [show (if (!decide (o 1 = mask G)) = true then (1 : Int32) else 0) = 0 by simp [hm]] at e2
      exact e2
    · rw [if_neg hm]
      rw [show (if (!decide (o 1 = mask G)) = true then (1 : Int32) else 0) = 1 by simp [hm]] at e2
      exact e2
theorem no_bits {X : Int32} (h : ∀ i, i < 32 → bt X i = false) : X = 0 := b_ext (fun i hi => by rw [h i hi, b_0])
theorem some_bit {X : Int32} (h : X ≠ 0) : ∃ i, i < 32 ∧ bt X i = true := by
  refine Classical.byContradiction (fun q => h (no_bits (fun i hi => ?_)))
  cases e : bt X i with
  | false => rfl
  | true => exact absurd ⟨i, hi, e⟩ q
theorem goes0_L40 {n G : Nat} (hG : G ≤ 7) {o r : Nat → Int32} (hr : r 3 = nI G) (K : (Nat → Int32) → Option (Nat → Int32)) (f : Nat → Int32) : ∀ (j k fuel : Nat), k + j = G → j < fuel → fX10_goes_L40 n 0 o r K fuel (nI k) f = K f := by
  intro j
  induction j with
  | zero =>
    intro k fuel hk hf
    obtain ⟨b, rfl⟩ : ∃ b, fuel = b + 1 := ⟨fuel - 1, by omega⟩
    rw [fX10_goes_L40, hr, if_pos (nI_le (by omega) (by omega))]
  | succ j ih =>
    intro k fuel hk hf
    obtain ⟨b, rfl⟩ : ∃ b, fuel = b + 1 := ⟨fuel - 1, by omega⟩
    rw [fX10_goes_L40, hr, if_neg (nI_ge (by omega) (by omega)), lz3, idx_r (by omega) (by omega), if_neg (ckI (N := 266) (by omega) (by omega)), hasBitS n 0 (by omega), ob1_ss, b_0, if_pos (show (if false = true then (1 : Int32) else 0) = 0 from rfl), sI]
    exact ih (k + 1) b (by omega) (by omega)
theorem goes0 {n G : Nat} (hn : 10 ≤ n) (hG : G ≤ 7) {o r st : Nat → Int32} (hr : r 3 = nI G) : fX10_goes n 0 o r st = some st := by
  rw [fX10_goes, lz0]
  obtain ⟨s1, a1, a2, a3, e1⟩ := goes_L2S (n := n) (who := nI 0) (o := o) (st := st) hG hr (fun f => fX10_goes_L40 n (nI 0) o r (fun f' => some f') n (nI 0) f) G 0 n st (by omega) (by omega) (fun _ _ => rfl) (fun _ _ => rfl) (fun g _ => by rw [if_neg (fun z => absurd z.1 (Nat.not_lt_zero g))])
  have e : s1 = st := by
    funext i
    by_cases h : i ≤ 6
    · exact a1 i h
    · by_cases h2 : 14 ≤ i
      · exact a2 i h2
      · have := a3 (i - 7) (by omega)
        rw [show 7 + (i - 7) = i by omega] at this
        rw [this, if_neg (fun z => by
          have h0 : bt (nI 0) (i - 7) = false := b_0 _
          rw [h0] at z; exact absurd z.2 (by decide))]
  rw [e] at e1
  exact e1.trans (goes0_L40 hG hr _ st G 0 n (by omega) (by omega))
theorem NR.congr {G : Nat} {o o' w la st : Nat → Int32} (h : NR G o w la st) (h0 : o' 0 = o 0) (h1 : o' 1 = o 1) (h2 : o' 2 = o 2) (h3 : o' 3 = o 3) : NR G o' w la st := by
  obtain ⟨a, b, c, d, e, f, g, i⟩ := h
  exact ⟨h0.trans a, h2.trans b, c, d, by rw [h1]; exact e, by rw [h1]; exact f, by rw [h1]; exact g, by rw [h1]; exact i⟩
/-- the reference's last round, in which nobody goes -/
theorem lvs_end {n G : Nat} (hn : 10 ≤ n) (hG : G ≤ 7) {r st om : Nat → Int32} (hr : r 3 = nI G) {x2 : Int32} {b : Nat}
    (hM : ∀ K : Int32 → Option (Int32 × (Nat → Int32) × (Nat → Int32)), ob1 (fX10_thereOf n om r st) (fun (u_2 : Int32) => if u_2 = (((1 : Int32) <<< ((r 3) &&& 31)) - (1 : Int32)) then fX10_leaves_L44 n x2 (0 : Int32) om r st K n (0 : Int32) (0 : Int32) else fX10_leaves_L44 n x2 (1 : Int32) om r st K n (0 : Int32) (0 : Int32)) = K 0) :
    fX10_leaves_L9 n r (fun x o1 s1 => some (x, o1, s1)) (b + 2) x2 1 om st = some (x2, upd om 22 (om 22 + 0), st) := by
  rw [fX10_leaves_L9, if_neg (by decide), hM, goes0 hn hG hr, ob1_ss, if_pos rfl, fX10_leaves_L9, if_pos rfl, or0]
/-- what more is known of those who stay and of those who went -/
def EXT (G : Nat) (x2 X : Int32) (o o' st st' : Nat → Int32) : Prop := o' 2 = o 2 ∧ o' 3 = o 3 ∧ (∀ i, i < 32 → bt (o' 1) i = true → bt (o 1) i = true) ∧ (∀ i, i < 32 → bt X i = true → bt x2 i = true ∨ bt (o 1) i = true) ∧ st' 16 = st 16
theorem EXT.refl (G : Nat) (x : Int32) (o st : Nat → Int32) : EXT G x x o o st st := ⟨rfl, rfl, fun _ _ h => h, fun _ _ h => Or.inl h, rfl⟩
/-- wants fall, and do not fall where nobody went -/
def WB (G t : Nat) (gr : Int32) (o w o' w' : Nat → Int32) : Prop := (∃ q, q ≤ 40 ∧ gr = nI q) → (∀ g, g < G → bt (o 1) g = true → -(1000000 + 280 * (t : Int)) ≤ (w g).toInt) → ∀ g, g < G → bt (o' 1) g = true → (w' g).toInt ≤ (w g).toInt ∧ (o' 1 = mask G → w' g = w g)
theorem WB.refl (G t : Nat) (gr : Int32) (o w : Nat → Int32) : WB G t gr o w o w := fun _ _ _ _ _ => ⟨Int.le_refl _, fun _ => rfl⟩
theorem settle_lock {n G D c : Nat} (hn : 10 ≤ n) {ho kind sinks mate dg dr dm r : Nat → Int32} (hH : HR G D ho kind sinks mate dg dr dm r) (hcb : c < 1000000) :
    ∀ (j t f1 f2 : Nat) (x2 : Int32) (o w la wl om st : Nat → Int32), t + j = 7 → j < f1 → j + 1 < f2 → NR G o w la st → st 14 = nI c → cnt (fun i => bt (o 1) i) G ≤ j → o 4 = om 22 →
      ∃ X o' w' la' wl' om' st', fX2_settle_L9 n ho kind mate dg dr dm (fun x o1 w1 l1 v1 => some (x, o1, w1, l1, v1)) f1 x2 (nI t) o w la wl = some (X, o', w', la', wl') ∧
        fX10_leaves_L9 n r (fun x o1 s1 => some (x, o1, s1)) f2 x2 1 om st = some (X, om', st') ∧ NR G o' w' la' st' ∧ st' 14 = st 14 ∧ o' 4 = om' 22 ∧ (∀ k, k ≠ 22 → om' k = om k) ∧ o' 5 = o 5 ∧ SET G D o' w' kind dg dr dm ∧ EXT G x2 X o o' st st' ∧ WB G t (ho 2) o w o' w' := by
  have hG : G ≤ 7 := hH.1
  intro j
  induction j with
  | zero =>
    intro t f1 f2 x2 o w la wl om st ht hf1 hf2 hN hc hcnt hro
    obtain ⟨a, rfl⟩ : ∃ a, f1 = a + 1 := ⟨f1 - 1, by omega⟩
    obtain ⟨b, rfl⟩ : ∃ b, f2 = b + 2 := ⟨f2 - 2, by omega⟩
    have hno : ∀ i, i < 32 → bt (o 1) i = false := fun i hi => by
      by_cases h : i < G
      · exact cnt_zero (P := fun i => bt (o 1) i) (by omega) i h
      · exact hN.2.2.2.2.2.2.2 i (by omega) hi
    obtain ⟨u, hu, -⟩ := weighS (n := n) hn (o := o) (want := w) (will := wl) hH
    obtain ⟨X, -, hX, hM⟩ := who_lock hn hH hN hu
    have e0 : X = 0 := no_bits (fun i hi => by rw [hX i hi, uP, hno i hi]; simp)
    subst e0
    refine ⟨x2, o, w, la, wl, _, st, ?_, lvs_end hn hG hH.2.2.1 (hM x2 om), hN, rfl, ?_, fun k hk => upd_n _ _ hk, rfl, fun g hg => ?_, EXT.refl _ _ _ _, WB.refl _ _ _ _ _⟩
    · rw [fX2_settle_L9, lz7, if_pos (nI_le (by omega) (by omega))]
    · rw [upd_s, Int32.add_zero]; exact hro
    · rw [hno g (by omega)]; simp
  | succ j ih =>
    intro t f1 f2 x2 o w la wl om st ht hf1 hf2 hN hc hcnt hro
    obtain ⟨a, rfl⟩ : ∃ a, f1 = a + 1 := ⟨f1 - 1, by omega⟩
    obtain ⟨b, rfl⟩ : ∃ b, f2 = b + 2 := ⟨f2 - 2, by omega⟩
    obtain ⟨u, hu, ew⟩ := weighS (n := n) hn (o := o) (want := w) (will := wl) hH
    obtain ⟨X, eX, hX, hM⟩ := who_lock hn hH hN hu
    rw [fX2_settle_L9, lz7, if_neg (nI_ge (by omega) (by omega)), ew, ob1_ss, eX, ob1_ss]
    by_cases h0 : X = 0
    · subst h0
      rw [if_pos rfl]
      refine ⟨x2, o, w, la, u, _, st, rfl, lvs_end hn hG hH.2.2.1 (hM x2 om), hN, rfl, ?_, fun k hk => upd_n _ _ hk, rfl, fun g hg => ?_, EXT.refl _ _ _ _, WB.refl _ _ _ _ _⟩
      · rw [upd_s, Int32.add_zero]; exact hro
      · have h := hX g (by omega)
        rw [b_0, uP, hu g hg] at h
        simpa [hg] using h.symm
    · rw [if_neg h0]
      have hXo : ∀ i, G ≤ i → i < 32 → bt X i = false := fun i h1 h2 => by
        rw [hX i h2]; simp [show ¬ i < G by omega]
      obtain ⟨o2, w2, la2, st2, er, eg, hN2, hc2, eo, h16⟩ := rel_goes (n := n) (who := X) (om := om) hn hH hN hc hcb hXo
      rw [er, ob3_ss, sI, fX10_leaves_L9, if_neg (by decide), hM, eg, ob1_ss, if_neg h0]
      have hb2 : ∀ i, i < 32 → bt (o2 1) i = (bt (o 1) i && !bt X i) := fun i hi => by rw [eo, upd_s, b_and, b_not X hi]
      obtain ⟨i0, hi0, hx0⟩ := some_bit h0
      have hi0G : i0 < G := by
        rcases Nat.lt_or_ge i0 G with q | q
        · exact q
        · rw [hXo i0 q hi0] at hx0; exact absurd hx0 (by decide)
      have hth0 : bt (o 1) i0 = true := by
        rw [hX i0 hi0, uP] at hx0
        simp at hx0
        exact hx0.2.1.1
      have hdrop : cnt (fun i => bt (upd o2 4 (o2 4 + 1) 1) i) G + 1 ≤ cnt (fun i => bt (o 1) i) G := by
        refine cnt_drop (j := i0) hi0G hth0 ?_ (fun i hi h => ?_)
        · show bt (upd o2 4 (o2 4 + 1) 1) i0 = false
          rw [upd_n _ _ (by decide), hb2 i0 hi0, hx0]; simp
        · have h' : bt (upd o2 4 (o2 4 + 1) 1) i = true := h
          rw [upd_n _ _ (by decide), hb2 i (by omega)] at h'
          simp at h'
          exact h'.1
      obtain ⟨Y, o', w', la', wl', om', st', f1', f2', g1, g2, g3, g4, g5, g6, g7, g8⟩ := ih (t + 1) a (b + 1) (x2 ||| X) (upd o2 4 (o2 4 + 1)) w2 la2 u (upd om 22 (om 22 + 1)) st2 (by omega) (by omega) (by omega) (hN2.congr (upd_n _ _ (by decide)) (upd_n _ _ (by decide)) (upd_n _ _ (by decide)) (upd_n _ _ (by decide))) (hc2.trans hc) (by omega) (by rw [upd_s, upd_s, eo, upd_n _ _ (by decide), hro])
      have q2 : upd o2 4 (o2 4 + 1) 1 = o2 1 := rfl
      refine ⟨Y, o', w', la', wl', om', st', f1', f2', g1, g2.trans hc2, g3, fun k hk => (g4 k hk).trans (upd_n _ _ hk), g5.trans (by rw [upd_n _ _ (by decide), eo, upd_n _ _ (by decide)]), g6, ⟨?_, ?_, ?_, ?_, g7.2.2.2.2.trans h16⟩, ?_⟩
      · exact g7.1.trans (by rw [upd_n _ _ (by decide), eo, upd_n _ _ (by decide)])
      · exact g7.2.1.trans (by rw [upd_n _ _ (by decide), eo, upd_n _ _ (by decide)])
      · intro i hi h
        have := g7.2.2.1 i hi h
        rw [q2, hb2 i hi] at this
        simp at this
        exact this.1
      · intro i hi h
        rcases g7.2.2.2.1 i hi h with z | z
        · rw [b_or] at z
          cases hz : bt x2 i with
          | true => exact Or.inl rfl
          | false =>
            rw [hz, Bool.false_or, hX i hi, uP] at z
            simp at z
            exact Or.inr z.2.1.1
        · rw [q2, hb2 i hi] at z
          simp at z
          exact Or.inr z.1
      · intro hgr hw g hg hb
        obtain ⟨q, hq, eq⟩ := hgr
        have er' := er
        rw [fX2_release, lz0] at er'
        have hb1 : ∀ g, g < G → bt (o2 1) g = true → bt (o 1) g = true := fun g hg h => by
          rw [hb2 g (by omega)] at h
          simp at h
          exact h.1
        have low := rel_low hH hq eq (B := 1000000 + 280 * (t : Int)) (by omega) G 0 n w la _ (by omega) er' (fun g hg h => by
          have h' : bt (o2 1) g = true := by rw [eo]; exact h
          have := hw g hg (hb1 g hg h')
          omega)
        have low' : ∀ g, g < G → bt (o2 1) g = true → (w2 g).toInt ≤ (w g).toInt ∧ -(1000000 + 280 * (t : Int) + 40 * (G : Int)) ≤ (w2 g).toInt := fun g hg h => low g hg (by rw [eo] at h; exact h)
        have hbo := g7.2.2.1 g (by omega) hb
        rw [q2] at hbo
        have key := g8 ⟨q, hq, eq⟩ (fun g hg h => by
          rw [q2] at h
          have := (low' g hg h).2
          omega) g hg hb
        refine ⟨Int.le_trans key.1 (low' g hg hbo).1, fun hm => ?_⟩
        exfalso
        have h1 : bt (o' 1) i0 = true := by rw [hm, mask, b_all G hG i0 hi0]; simp [hi0G]
        have h2 := g7.2.2.1 i0 hi0 h1
        rw [q2, hb2 i0 hi0, hx0] at h2
        simp at h2
