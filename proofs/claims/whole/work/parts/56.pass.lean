/-! an hour goes by, by both -/
theorem cnt_le (P : Nat → Bool) : ∀ n : Nat, cnt P n ≤ n
  | 0 => Nat.le_refl _
  | n + 1 => by
    have := cnt_le P n
    rw [cnt]
    by_cases h : P n = true
    · rw [if_pos h]; omega
    · rw [if_neg h]; omega
theorem settleS {n G D c : Nat} (hn : 10 ≤ n) {ho kind sinks mate dg dr dm r : Nat → Int32} (hH : HR G D ho kind sinks mate dg dr dm r) (hcb : c < 1000000) (o w la wl om st : Nat → Int32) (hN : NR G o w la st) (hc : st 14 = nI c) :
    ∃ X o' w' la' wl' om' st', fX2_settle n o w la wl ho kind mate dg dr dm = some (X, o', w', la', wl') ∧ fX10_leaves n om r st = some (X, om', st') ∧ NR G o' w' la' st' ∧ st' 14 = st 14 ∧ o' 4 = om' 22 ∧ (∀ k, k ≠ 22 → om' k = om k) ∧ o' 5 = o 5 ∧ SET G D o' w' kind dg dr dm ∧ EXT G 0 X o o' st st' ∧ WB G 0 (ho 2) o w o' w' := by
  have hG : G ≤ 7 := hH.1
  obtain ⟨X, o', w', la', wl', om', st', e1, e2, g1, g2, g3, g4, g5, g6, g7, g8⟩ := settle_lock hn hH hcb 7 0 n n 0 (upd o 4 0) w la wl (upd om 22 0) st (by omega) (by omega) (by omega) (hN.congr (upd_n _ _ (by decide)) (upd_n _ _ (by decide)) (upd_n _ _ (by decide)) (upd_n _ _ (by decide))) hc (Nat.le_trans (cnt_le _ _) hG) (by rw [upd_s, upd_s])
  exact ⟨X, o', w', la', wl', om', st', e1, e2, g1, g2, g3, fun k hk => (g4 k hk).trans (upd_n _ _ hk), g5.trans (upd_n _ _ (by decide)), g6, ⟨g7.1, g7.2.1, g7.2.2.1, g7.2.2.2.1, g7.2.2.2.2⟩, g8⟩
/-- does g's wish sink -/
def snk (G : Nat) (st r : Nat → Int32) (g : Nat) : Prop := st (7 + g) = 0 ∧ r (9 + 4 * g) ≠ 3 ∧ (r (9 + 4 * g) = 2 → ¬ st 14 < 6)
theorem doesSink_y {n G g : Nat} {o r st : Nat → Int32} (hg : g < 7) (h : snk G st r g) : fX10_doesSink n (nI g) o r st = some 1 := by
  obtain ⟨h1, h2, h3⟩ := h
  rw [fX10_doesSink, isInS n st hg, ob1_ss, if_pos h1, if_neg (by decide), kindOfS n o r hg, ob1_ss, if_neg h2, ob1_ss]
  by_cases h4 : r (9 + 4 * g) = 2
  · rw [if_pos h4, if_neg (h3 h4)]
  · rw [if_neg h4]
theorem doesSink_n {n G g : Nat} {o r st : Nat → Int32} (hg : g < 7) (h : ¬ snk G st r g) : fX10_doesSink n (nI g) o r st = some 0 := by
  rw [fX10_doesSink, isInS n st hg, ob1_ss]
  by_cases h1 : st (7 + g) = 0
  · rw [if_pos h1, if_neg (by decide), kindOfS n o r hg, ob1_ss]
    by_cases h2 : r (9 + 4 * g) = 3
    · rw [if_pos h2]
    · rw [if_neg h2, ob1_ss]
      by_cases h4 : r (9 + 4 * g) = 2
      · rw [if_pos h4]
        by_cases h5 : st 14 < 6
        · rw [if_pos h5]
        · exact absurd ⟨h1, h2, fun _ => h5⟩ h
      · exact absurd ⟨h1, h2, fun q => absurd q h4⟩ h
  · rw [if_neg h1, if_pos rfl]
/-- the class's step: sinks or not, with any amount that the pace gives -/
theorem sink_step {n G D k : Nat} {ho kind sinks mate dg dr dm r : Nat → Int32} (hH : HR G D ho kind sinks mate dg dr dm r) {o st : Nat → Int32} (hk : k < G) (h0 : o 0 = st 14) (hth : bt (o 1) k = true ↔ st (7 + k) = 0) (K : (Nat → Int32) → (Nat → Int32) → Option ((Nat → Int32) × (Nat → Int32))) (f : Nat) (w po : Nat → Int32) (a : Int32) (po' : Nat → Int32) (ha : fX3_amount n (sinks k) po = some (a, po')) :
    fX2_sink_L2 n o ho kind sinks K (f + 1) (nI k) w po = if (bt (o 1) k = true ∧ r (9 + 4 * k) ≠ 3 ∧ (r (9 + 4 * k) = 2 → ¬ st 14 < 6)) then fX2_sink_L2 n o ho kind sinks K f (nI (k + 1)) (upd w k (w k - a)) po' else fX2_sink_L2 n o ho kind sinks K f (nI (k + 1)) w po := by
  have hG : G ≤ 7 := hH.1
  have hkd := hH.2.2.2.2.1 k hk
  have hck : ¬ (nI k < 0 ∨ 7 ≤ k) := ckK (by omega) (by omega)
  rw [fX2_sink_L2, hH.2.1, if_neg (nI_ge (by omega) (by omega)), if_neg (ckI (by omega) (by omega)), clI (by omega), sI, ha]
  dsimp only [jn, ob2]
  rw [hkd, h0]
  by_cases hb : bt (o 1) k = true
  · have e1 : ((o 1 >>> (nI k &&& 31)) &&& (1 : Int32)) = 1 := (bit_is _ (by omega)).mpr hb
    by_cases h3 : r (9 + 4 * k) = 3
    · rw [if_pos h3, if_pos e1, if_neg i10, if_neg (fun q => q.2.1 h3)]
    · rw [if_neg h3, if_neg hck]
      by_cases h2 : r (9 + 4 * k) = 2
      · rw [if_pos h2]
        by_cases h6 : (6 : Int32) ≤ st 14
        · rw [if_pos h6, if_pos e1, if_pos i00, if_neg hck, if_neg hck, if_neg hck, if_pos ⟨hb, h3, fun _ => Int32.not_lt.mpr h6⟩]
        · rw [if_neg h6, if_pos e1, if_neg i10, if_neg (fun q => q.2.2 h2 (Int32.not_le.mp h6))]
      · rw [if_neg h2, if_pos e1, if_pos i00, if_neg hck, if_neg hck, if_neg hck, if_pos ⟨hb, h3, fun q => absurd q h2⟩]
  · have e1 : ¬ ((o 1 >>> (nI k &&& 31)) &&& (1 : Int32)) = 1 := fun q => hb ((bit_is _ (by omega)).mp q)
    rw [if_neg (fun q : bt (o 1) k = true ∧ r (9 + 4 * k) ≠ 3 ∧ (r (9 + 4 * k) = 2 → ¬ st 14 < 6) => hb q.1)]
    by_cases h3 : r (9 + 4 * k) = 3
    · rw [if_pos h3, if_neg e1]
    · rw [if_neg h3, if_neg hck]
      by_cases h2 : r (9 + 4 * k) = 2
      · rw [if_pos h2]
        by_cases h6 : (6 : Int32) ≤ st 14
        · rw [if_pos h6, if_neg e1]
        · rw [if_neg h6, if_neg e1]
      · rw [if_neg h2, if_neg e1]
theorem sink_lock {n G D : Nat} {ho kind sinks mate dg dr dm r : Nat → Int32} (hH : HR G D ho kind sinks mate dg dr dm r) {o om st0 po : Nat → Int32} (hpo : po 0 = 0) (h0 : o 0 = st0 14) (hth : ∀ g, g < G → (bt (o 1) g = true ↔ st0 (7 + g) = 0))
    (K : (Nat → Int32) → (Nat → Int32) → Option ((Nat → Int32) × (Nat → Int32))) (K2 : (Nat → Int32) → Option (Int32 × (Nat → Int32) × (Nat → Int32))) :
    ∀ (j k f1 f2 : Nat) (w st : Nat → Int32), k + j = G → j < f1 → j < f2 → (∀ i, i < G → w i = st i) → (∀ i, 7 ≤ i → st i = st0 i) →
      ∃ w' st', (∀ i, i < G → w' i = st' i) ∧ (∀ i, 7 ≤ i → st' i = st0 i) ∧ fX2_sink_L2 n o ho kind sinks K f1 (nI k) w po = K w' po ∧ fX10_hourOf_L2 n om r K2 f2 (nI k) st = K2 st' := by
  have hG : G ≤ 7 := hH.1
  intro j
  induction j with
  | zero =>
    intro k f1 f2 w st hk hf1 hf2 hw hs
    obtain ⟨a, rfl⟩ : ∃ a, f1 = a + 1 := ⟨f1 - 1, by omega⟩
    obtain ⟨b, rfl⟩ : ∃ b, f2 = b + 1 := ⟨f2 - 1, by omega⟩
    exact ⟨w, st, hw, hs, by rw [fX2_sink_L2, hH.2.1, if_pos (nI_le (by omega) (by omega))], by rw [fX10_hourOf_L2, hH.2.2.1, if_pos (nI_le (by omega) (by omega))]⟩
  | succ j ih =>
    intro k f1 f2 w st hk hf1 hf2 hw hs
    obtain ⟨a, rfl⟩ : ∃ a, f1 = a + 1 := ⟨f1 - 1, by omega⟩
    obtain ⟨b, rfl⟩ : ∃ b, f2 = b + 1 := ⟨f2 - 1, by omega⟩
    have ham : fX3_amount n (sinks k) po = some (sinks k, po) := by rw [fX3_amount, if_pos hpo]
    have hsk := hH.2.2.2.2.2.1 k (by omega)
    rw [sink_step (st := st) hH (by omega) (by rw [h0, hs 14 (by omega)]) (by rw [hs (7 + k) (by omega)]; exact hth k (by omega)) K a w po _ po ham, fX10_hourOf_L2, hH.2.2.1, if_neg (nI_ge (by omega) (by omega)), if_neg (ckI (k := k) (N := 17) (by omega) (by omega)), clI (k := k) (by omega), sI]
    by_cases hc : snk G st r k
    · rw [doesSink_y (G := G) (by omega) hc, ob1_ss, if_neg i10, sinksOfS n om r (by omega), ob1_ss, if_neg (ckK (k := k) (N := 17) (by omega) (by omega)), if_pos ⟨by rw [hth k (by omega), ← hs (7 + k) (by omega)]; exact hc.1, hc.2.1, hc.2.2⟩]
      refine ih (k + 1) a b _ _ (by omega) (by omega) (by omega) (fun i hi => ?_) (fun i hi => ?_)
      · by_cases e : i = k
        · subst e; rw [upd_s, upd_s, hw i hi, hsk]
        · rw [upd_n _ _ e, upd_n _ _ e]; exact hw i hi
      · rw [upd_n _ _ (by omega)]; exact hs i hi
    · rw [doesSink_n (G := G) (by omega) hc, ob1_ss, if_pos i00, if_neg (ckK (k := k) (N := 17) (by omega) (by omega)), if_neg (fun q => hc ⟨by rw [hs (7 + k) (by omega)]; exact (hth k (by omega)).mp q.1, q.2.1, q.2.2⟩)]
      refine ih (k + 1) a b _ _ (by omega) (by omega) (by omega) (fun i hi => ?_) (fun i hi => ?_)
      · by_cases e : i = k
        · subst e; rw [upd_s, Int32.sub_zero]; exact hw i hi
        · rw [upd_n _ _ e]; exact hw i hi
      · rw [upd_n _ _ (by omega)]; exact hs i hi
theorem NR.hour {G : Nat} {o w la st w1 s1 : Nat → Int32} (h : NR G o w la st) (hw : ∀ i, i < G → w1 i = s1 i) (hs : ∀ i, 7 ≤ i → s1 i = st i) (hG : G ≤ 7) : NR G (upd o 0 (o 0 + 1)) w1 la (upd s1 14 (s1 14 + 1)) := by
  obtain ⟨a, b, c, d, e, f, g, i⟩ := h
  refine ⟨?_, ?_, ?_, ?_, ?_, ?_, ?_, ?_⟩
  · rw [upd_s, upd_s, hs 14 (by omega), a]
  · rw [upd_n _ _ (by decide), upd_n _ _ (by decide), hs 15 (by omega)]; exact b
  · trivial
  · intro g hg; rw [upd_n _ _ (by omega)]; exact hw g hg
  · intro g hg; rw [upd_n _ _ (by decide), upd_n _ _ (by omega), hs (7 + g) (by omega)]; exact e g hg
  · intro g hg; rw [upd_n _ _ (by decide), upd_n _ _ (by omega), hs (7 + g) (by omega)]; exact f g hg
  · intro k hg; rw [upd_n _ _ (by decide)]; exact g k hg
  · intro k h1 h2; rw [upd_n _ _ (by decide)]; exact i k h1 h2
/-- what more is known after an hour -/
def WP (G : Nat) (ho sinks o w o' w' : Nat → Int32) : Prop := (∃ q, q ≤ 40 ∧ ho 2 = nI q) → (∀ g, g < G → ∃ q, q ≤ 20 ∧ sinks g = nI q) → (∀ g, g < G → bt (o 1) g = true → -900000 ≤ (w g).toInt) → ∀ g, g < G → bt (o' 1) g = true → (w' g).toInt ≤ (w g).toInt ∧ (o' 1 = mask G → (w g).toInt - 20 ≤ (w' g).toInt)
theorem sink_low {n G D : Nat} {ho kind sinks mate dg dr dm r : Nat → Int32} (hH : HR G D ho kind sinks mate dg dr dm r) {o po : Nat → Int32} (hpo : po 0 = 0) (hs : ∀ g, g < G → ∃ q, q ≤ 20 ∧ sinks g = nI q) :
    ∀ (j k f : Nat) (w : Nat → Int32) (res : (Nat → Int32) × (Nat → Int32)), k + j = G → fX2_sink_L2 n o ho kind sinks (fun w1 p1 => some (w1, p1)) f (nI k) w po = some res → (∀ g, k ≤ g → g < G → bt (o 1) g = true → -900000 ≤ (w g).toInt) →
      (∀ g, g < k → res.1 g = w g) ∧ ∀ g, k ≤ g → g < G → bt (o 1) g = true → (res.1 g).toInt ≤ (w g).toInt ∧ (w g).toInt - 20 ≤ (res.1 g).toInt := by
  obtain ⟨hG, h3, -⟩ := hH
  intro j
  induction j with
  | zero =>
    intro k f w res hk h hw
    cases f with
    | zero => exact absurd h (by simp [fX2_sink_L2])
    | succ f =>
      rw [fX2_sink_L2, h3, if_pos (nI_le (by omega) (by omega))] at h
      have e := Option.some.inj h
      subst e
      exact ⟨fun _ _ => rfl, fun g _ _ _ => ⟨Int.le_refl _, by omega⟩⟩
  | succ j ih =>
    intro k f w res hk h hw
    cases f with
    | zero => exact absurd h (by simp [fX2_sink_L2])
    | succ f =>
      have ham : fX3_amount n (sinks k) po = some (sinks k, po) := by rw [fX3_amount, if_pos hpo]
      have hck : ¬ (nI k < 0 ∨ 7 ≤ k) := ckK (by omega) (by omega)
      have stay : fX2_sink_L2 n o ho kind sinks (fun w1 p1 => some (w1, p1)) f (nI (k + 1)) w po = some res → (∀ g, g < k → res.1 g = w g) ∧ ∀ g, k ≤ g → g < G → bt (o 1) g = true → (res.1 g).toInt ≤ (w g).toInt ∧ (w g).toInt - 20 ≤ (res.1 g).toInt := fun h => by
        have := ih (k + 1) f w res (by omega) h (fun g h1 => hw g (by omega))
        refine ⟨fun g hg => this.1 g (by omega), fun g h1 h2 h3 => ?_⟩
        by_cases e : g = k
        · subst e; rw [this.1 g (by omega)]; exact ⟨Int.le_refl _, by omega⟩
        · exact this.2 g (by omega) h2 h3
      have go : ((o 1 >>> (nI k &&& 31)) &&& (1 : Int32)) = 1 → fX2_sink_L2 n o ho kind sinks (fun w1 p1 => some (w1, p1)) f (nI (k + 1)) (upd w k (w k - sinks k)) po = some res → (∀ g, g < k → res.1 g = w g) ∧ ∀ g, k ≤ g → g < G → bt (o 1) g = true → (res.1 g).toInt ≤ (w g).toInt ∧ (w g).toInt - 20 ≤ (res.1 g).toInt := fun hb h => by
        obtain ⟨q, hq, eq⟩ := hs k (by omega)
        have hwk := hw k (by omega) (by omega) ((bit_is _ (by omega)).mp hb)
        have es : (w k - nI q).toInt = (w k).toInt - (q : Int) := sub_small (by omega) (by omega)
        rw [eq] at h
        have := ih (k + 1) f _ res (by omega) h (fun g h1 h2 h3 => by rw [upd_n _ _ (by omega)]; exact hw g (by omega) h2 h3)
        refine ⟨fun g hg => (this.1 g (by omega)).trans (upd_n _ _ (by omega)), fun g h1 h2 h3 => ?_⟩
        by_cases e : g = k
        · subst e
          have z := this.1 g (by omega)
          rw [upd_s] at z
          rw [z, es]
          omega
        · have z := this.2 g (by omega) h2 h3
          rw [upd_n _ _ e] at z
          exact z
      rw [fX2_sink_L2, h3, if_neg (nI_ge (by omega) (by omega)), if_neg (ckI (by omega) (by omega)), clI (by omega), sI, ham] at h
      dsimp only [jn, ob2] at h
      by_cases hb : ((o 1 >>> (nI k &&& 31)) &&& (1 : Int32)) = 1
      · rw [if_pos hb, if_neg i10, if_pos hb, if_pos i00, if_neg hck, if_neg hck, if_neg hck, if_neg hck] at h
        by_cases k3 : kind k = 3
        · rw [if_pos k3] at h; exact stay h
        · rw [if_neg k3] at h
          by_cases k2 : kind k = 2
          · rw [if_pos k2] at h
            by_cases h6 : (6 : Int32) ≤ o 0
            · rw [if_pos h6] at h; exact go hb h
            · rw [if_neg h6] at h; exact stay h
          · rw [if_neg k2] at h; exact go hb h
      · rw [if_neg hb, if_neg hb] at h
        rw [if_neg hck] at h
        refine stay ?_
        revert h
        by_cases k3 : kind k = 3
        · rw [if_pos k3]; exact id
        · rw [if_neg k3]
          by_cases k2 : kind k = 2
          · rw [if_pos k2]
            by_cases h6 : (6 : Int32) ≤ o 0
            · rw [if_pos h6]; exact id
            · rw [if_neg h6]; exact id
          · rw [if_neg k2]; exact id
/-- AN HOUR: the class's night and the reference's row stay together -/
theorem pass_lock {n G D c : Nat} (hn : 10 ≤ n) {ho kind sinks mate dg dr dm r : Nat → Int32} (hH : HR G D ho kind sinks mate dg dr dm r) (hcb : c + 1 < 1000000) {o w la st : Nat → Int32} (wl om po : Nat → Int32) (hN : NR G o w la st) (hc : st 14 = nI c) (hpo : po 0 = 0) :
    ∃ X o' w' la' wl' om' st', fX2_pass n o w la wl ho kind sinks mate dg dr dm po = some (X, o', w', la', wl', po) ∧ fX10_hourOf n om r st = some (X, om', st') ∧ NR G o' w' la' st' ∧ st' 14 = nI (c + 1) ∧ o' 4 = om' 22 ∧ (∀ k, k ≠ 22 → om' k = om k) ∧ o' 5 = o 5 ∧ SET G D o' w' kind dg dr dm ∧ EXT G 0 X o o' st st' ∧ WP G ho sinks o w o' w' := by
  have hG : G ≤ 7 := hH.1
  obtain ⟨w1, s1, hw, hs, e1, e2⟩ := sink_lock (n := n) hH (o := o) (om := om) (st0 := st) hpo hN.1 hN.2.2.2.2.1 (fun f p1 => some (f, p1)) (fun f_r1_x2 => ob3 (fX10_leaves n om r (upd f_r1_x2 14 ((f_r1_x2 14) + (1 : Int32)))) (fun u_10 u_11 u_12 => some (u_10, u_11, u_12))) G 0 n n w st (by omega) (by omega) (by omega) hN.2.2.2.1 (fun _ _ => rfl)
  obtain ⟨X, o', w', la', wl', om', st', f1, f2, g1, g2, g3, g4, g5, g6, g7, g8⟩ := settleS hn hH hcb (upd o 0 (o 0 + 1)) w1 la wl om (upd s1 14 (s1 14 + 1)) (hN.hour hw hs hG) (by rw [upd_s, hs 14 (by omega), hc, sI])
  refine ⟨X, o', w', la', wl', om', st', ?_, ?_, g1, ?_, g3, g4, g5.trans (upd_n _ _ (by decide)), g6, ⟨g7.1, g7.2.1, g7.2.2.1, g7.2.2.2.1, g7.2.2.2.2.trans ((upd_n _ _ (by decide)).trans (hs 16 (by omega)))⟩, ?_⟩
  · rw [fX2_pass, fX2_sink, lz0, e1, ob2_ss, f1, ob5_ss]
  · rw [fX10_hourOf, lz0, e2, f2, ob3_ss]
  · rw [g2, upd_s, hs 14 (by omega), hc, sI]
  · intro hgr hs hw g hg hb
    have low : ∀ g, 0 ≤ g → g < G → bt (o 1) g = true → (w1 g).toInt ≤ (w g).toInt ∧ (w g).toInt - 20 ≤ (w1 g).toInt := (sink_low (n := n) hH hpo hs G 0 n w _ (by omega) e1 (fun g _ => hw g)).2
    have hb0 : bt (o 1) g = true := g7.2.2.1 g (by omega) hb
    have l1 := low g (by omega) hg hb0
    have key := g8 hgr (fun g hg h => by
      have := low g (by omega) hg h
      have := hw g hg h
      show -(1000000 + 280 * ((0 : Nat) : Int)) ≤ (w1 g).toInt
      omega) g hg hb
    refine ⟨Int.le_trans key.1 l1.1, fun hm => ?_⟩
    rw [key.2 hm]
    exact l1.2
