/-! evenings by draws -/
def Sd (x : Int32) : Int32 := ((75 * x) + 74) - ((75 * x) + 74) / 65537 * 65537
def Am (x s : Int32) : Int32 := Sd x - Sd x / ((2 * s) + 1) * ((2 * s) + 1)
theorem amountD {n q : Nat} {s : Int32} {po : Nat → Int32} (hpo : po 0 = 1) (hq : q ≤ 20) (hs : s = nI q) : fX3_amount n s po = some (Am (po 1) s, upd po 1 (Sd (po 1))) := by
  have e : (2 : Int32) * nI q + 1 = nI (2 * q + 1) := by rw [lz2, mulI, sI]
  rw [fX3_amount, hpo, if_neg i10, if_pos (by rw [hs, e]; exact nI_le (a := 1) (by omega) (by omega)), if_neg (by rw [hs, e]; exact nI_ne0 (by omega) (by omega))]
  rfl
theorem sinkD_lock {n G D : Nat} {ho kind sinks mate dg dr dm r : Nat → Int32} (hH : HR G D ho kind sinks mate dg dr dm r) (hsk : ∀ g, g < G → ∃ q, q ≤ 20 ∧ sinks g = nI q) {o st0 : Nat → Int32} (h0 : o 0 = st0 14) (hth : ∀ g, g < G → (bt (o 1) g = true ↔ st0 (7 + g) = 0))
    (K : (Nat → Int32) → (Nat → Int32) → Option ((Nat → Int32) × (Nat → Int32))) (K2 : (Nat → Int32) → (Nat → Int32) → Option (Int32 × (Nat → Int32) × (Nat → Int32))) :
    ∀ (j k f1 f2 : Nat) (w st po om : Nat → Int32), k + j = G → j < f1 → j < f2 → (∀ i, i < G → w i = st i) → (∀ i, 7 ≤ i → st i = st0 i) → po 0 = 1 → po 1 = om 23 →
      ∃ w' st' po' om', (∀ i, i < G → w' i = st' i) ∧ (∀ i, 7 ≤ i → st' i = st0 i) ∧ fX2_sink_L2 n o ho kind sinks K f1 (nI k) w po = K w' po' ∧ fX10_hourDrawn_L2 n r K2 f2 (nI k) om st = K2 om' st' ∧ po' 0 = 1 ∧ po' 1 = om' 23 ∧ ∀ i, i ≠ 23 → om' i = om i := by
  have hG : G ≤ 7 := hH.1
  intro j
  induction j with
  | zero =>
    intro k f1 f2 w st po om hk hf1 hf2 hw hs hp0 hp1
    obtain ⟨a, rfl⟩ : ∃ a, f1 = a + 1 := ⟨f1 - 1, by omega⟩
    obtain ⟨b, rfl⟩ : ∃ b, f2 = b + 1 := ⟨f2 - 1, by omega⟩
    exact ⟨w, st, po, om, hw, hs, by rw [fX2_sink_L2, hH.2.1, if_pos (nI_le (by omega) (by omega))], by rw [fX10_hourDrawn_L2, hH.2.2.1, if_pos (nI_le (by omega) (by omega))], hp0, hp1, fun _ _ => rfl⟩
  | succ j ih =>
    intro k f1 f2 w st po om hk hf1 hf2 hw hs hp0 hp1
    obtain ⟨a, rfl⟩ : ∃ a, f1 = a + 1 := ⟨f1 - 1, by omega⟩
    obtain ⟨b, rfl⟩ : ∃ b, f2 = b + 1 := ⟨f2 - 1, by omega⟩
    obtain ⟨q, hq, eq⟩ := hsk k (by omega)
    have ham := amountD (n := n) hp0 hq eq
    have hskk := hH.2.2.2.2.2.1 k (by omega)
    have e2 : ¬ (2 : Int32) * r (9 + 4 * k + 2) + 1 = 0 := by rw [← hskk, eq, lz2, mulI, sI]; exact nI_ne0 (by omega) (by omega)
    rw [sink_step (st := st) hH (by omega) (by rw [h0, hs 14 (by omega)]) (by rw [hs (7 + k) (by omega)]; exact hth k (by omega)) K a w po _ _ ham, fX10_hourDrawn_L2, hH.2.2.1, if_neg (nI_ge (by omega) (by omega)), sI]
    by_cases hc : snk G st r k
    · rw [doesSink_y (G := G) (by omega) hc, ob1_ss, if_neg i10, if_neg (ckI (k := k) (N := 17) (by omega) (by omega)), clI (k := k) (by omega), sinksOfS n _ r (by omega), ob1_ss, if_neg e2, if_neg (ckK (k := k) (N := 17) (by omega) (by omega)), if_pos ⟨by rw [hth k (by omega), ← hs (7 + k) (by omega)]; exact hc.1, hc.2.1, hc.2.2⟩]
      obtain ⟨w', st', po', om', t1, t2, t3, t4, t5, t6, t7⟩ := ih (k + 1) a b (upd w k (w k - Am (po 1) (sinks k))) (upd st k (st k - Am (om 23) (r (9 + 4 * k + 2)))) (upd po 1 (Sd (po 1))) (upd om 23 (Sd (om 23))) (by omega) (by omega) (by omega) (fun i hi => by
        by_cases e : i = k
        · subst e; rw [upd_s, upd_s, hw i hi, hp1, hskk]
        · rw [upd_n _ _ e, upd_n _ _ e]; exact hw i hi) (fun i hi => by rw [upd_n _ _ (by omega)]; exact hs i hi) (by rw [upd_n _ _ (by decide)]; exact hp0) (by rw [upd_s, upd_s, hp1])
      exact ⟨w', st', po', om', t1, t2, t3, t4, t5, t6, fun i hi => (t7 i hi).trans (upd_n _ _ hi)⟩
    · rw [doesSink_n (G := G) (by omega) hc, ob1_ss, if_pos i00, if_neg (fun q => hc ⟨by rw [hs (7 + k) (by omega)]; exact (hth k (by omega)).mp q.1, q.2.1, q.2.2⟩)]
      exact ih (k + 1) a b w st po om (by omega) (by omega) (by omega) hw hs hp0 hp1
theorem passD_lock {n G D c : Nat} (hn : 10 ≤ n) {ho kind sinks mate dg dr dm r : Nat → Int32} (hH : HR G D ho kind sinks mate dg dr dm r) (hsk : ∀ g, g < G → ∃ q, q ≤ 20 ∧ sinks g = nI q) (hcb : c + 1 < 1000000) {o w la st : Nat → Int32} (wl om po : Nat → Int32) (hN : NR G o w la st) (hc : st 14 = nI c) (hp0 : po 0 = 1) (hp1 : po 1 = om 23) :
    ∃ X o' w' la' wl' po' om' st', fX2_pass n o w la wl ho kind sinks mate dg dr dm po = some (X, o', w', la', wl', po') ∧ fX10_hourDrawn n om r st = some (X, om', st') ∧ NR G o' w' la' st' ∧ st' 14 = nI (c + 1) ∧ (∀ k, k ≠ 22 → k ≠ 23 → om' k = om k) ∧ po' 0 = 1 ∧ po' 1 = om' 23 := by
  have hG : G ≤ 7 := hH.1
  obtain ⟨w1, s1, po1, om1, hw, hs, e1, e2, z1, z2, z3⟩ := sinkD_lock (n := n) hH hsk (o := o) (st0 := st) hN.1 hN.2.2.2.2.1 (fun f p1 => some (f, p1)) (fun o1 f1 => ob3 (fX10_leaves n o1 r (upd f1 14 ((f1 14) + (1 : Int32)))) (fun u_10 u_11 u_12 => some (u_10, u_11, u_12))) G 0 n n w st po om (by omega) (by omega) (by omega) hN.2.2.2.1 (fun _ _ => rfl) hp0 hp1
  obtain ⟨X, o', w', la', wl', om', st', f1, f2, g1, g2, g3, g4, g5, g6, g7, g8⟩ := settleS hn hH hcb (upd o 0 (o 0 + 1)) w1 la wl om1 (upd s1 14 (s1 14 + 1)) (hN.hour hw hs hG) (by rw [upd_s, hs 14 (by omega), hc, sI])
  refine ⟨X, o', w', la', wl', po1, om', st', ?_, ?_, g1, ?_, fun k h1 h2 => (g4 k h1).trans (z3 k h2), z1, z2.trans (g4 23 (by decide)).symm⟩
  · rw [fX2_pass, fX2_sink, lz0, e1, ob2_ss, f1, ob5_ss]
  · rw [fX10_hourDrawn, lz0, e2, f2, ob3_ss]
  · rw [g2, upd_s, hs 14 (by omega), hc, sI]
theorem endsD_lock {n G D : Nat} (hn : 100 ≤ n) {ho kind sinks mate dg dr dm r : Nat → Int32} (hH : HR G D ho kind sinks mate dg dr dm r) (hsk : ∀ g, g < G → ∃ q, q ≤ 20 ∧ sinks g = nI q) :
    ∀ (j x f1 f2 c : Nat) (o w la wl po om st : Nat → Int32), x + j = 60 → j < f1 → j + 1 < f2 → c + j + 1 < 1000000 → st 14 = nI c → NR G o w la st → o 5 = om 24 → po 0 = 1 → po 1 = om 23 →
      ∃ (E R : Int32) (om' st' o' w' la' wl' po' : Nat → Int32), fX10_endsOn_L7 n 1 r (fun o1 s1 => some ((-2 : Int32), o1, s1)) f2 (nI x) om st = some (E, om', st') ∧ (∀ k, k ≠ 22 → k ≠ 23 → k ≠ 24 → om' k = om k) ∧
          fX2_runOut_L8 n 60 ho kind sinks mate dg dr dm (fun x4 o1 w1 l1 v1 p1 => if o1 1 = 0 then some (x4, o1, w1, l1, v1, p1) else some ((61 : Int32), o1, w1, l1, v1, p1)) f1 (nI x) o w la wl po = some (R, o', w', la', wl', po') ∧
          ((∃ e, e ≤ 60 ∧ E = nI e ∧ R = nI e ∧ o' 5 = om' 24) ∨ (E = -2 ∧ R = 61)) ∧ po' 0 = 1 ∧ po' 1 = om' 23 := by
  have hG : G ≤ 7 := hH.1
  have hr : r 3 = nI G := hH.2.2.1
  have l60 : (60 : Int32) = nI 60 := rfl
  intro j
  induction j with
  | zero =>
    intro x f1 f2 c o w la wl po om st hx hf1 hf2 hcb hc hN h5 hp0 hp1
    obtain ⟨a, rfl⟩ : ∃ a, f1 = a + 1 := ⟨f1 - 1, by omega⟩
    obtain ⟨b, rfl⟩ : ∃ b, f2 = b + 2 := ⟨f2 - 2, by omega⟩
    have ex : x = 60 := by omega
    subst ex
    rw [fX10_endsOn_L7, if_neg (by decide), th0 (by omega) hG hr hN, ob1_ss, fX2_runOut_L8]
    by_cases h0 : o 1 = 0
    · rw [if_pos h0, if_pos h0, if_pos h0]
      exact ⟨_, _, _, _, _, _, _, _, _, rfl, fun _ _ _ _ => rfl, rfl, Or.inl ⟨60, by omega, rfl, rfl, h5⟩, hp0, hp1⟩
    · rw [if_neg h0, if_pos (by decide), fX10_endsOn_L7, if_pos (by decide), if_neg h0, if_pos (by decide), if_neg h0]
      exact ⟨_, _, _, _, _, _, _, _, _, rfl, fun _ _ _ _ => rfl, rfl, Or.inr ⟨rfl, rfl⟩, hp0, hp1⟩
  | succ j ih =>
    intro x f1 f2 c o w la wl po om st hx hf1 hf2 hcb hc hN h5 hp0 hp1
    obtain ⟨a, rfl⟩ : ∃ a, f1 = a + 1 := ⟨f1 - 1, by omega⟩
    obtain ⟨b, rfl⟩ : ∃ b, f2 = b + 1 := ⟨f2 - 1, by omega⟩
    rw [fX10_endsOn_L7, l60, if_neg (nI_nlt (by omega) (by omega)), th0 (by omega) hG hr hN, ob1_ss, fX2_runOut_L8]
    by_cases h0 : o 1 = 0
    · rw [if_pos h0, if_pos h0, if_pos h0]
      exact ⟨_, _, _, _, _, _, _, _, _, rfl, fun _ _ _ _ => rfl, rfl, Or.inl ⟨x, by omega, rfl, rfl, h5⟩, hp0, hp1⟩
    · rw [if_neg h0, if_neg (nI_ge (by omega) (by omega)), if_neg i10, if_neg h0, if_neg (nI_ge (by omega) (by omega))]
      obtain ⟨X, o1, w1, la1, wl1, po1, om1, st1, e1, e2, g1, g2, g3, g4, g5⟩ := passD_lock (n := n) (by omega) hH hsk (c := c) (by omega) wl om po hN hc hp0 hp1
      rw [e2, ob3_ss, e1, ob6_ss, sI]
      obtain ⟨E, R, om', st', o', w', la', wl', po', t1, t2, t3, t4, t5, t6⟩ := ih (x + 1) a b (c + 1) (upd o1 5 X) w1 la1 wl1 po1 (upd om1 24 X) st1 (by omega) (by omega) (by omega) (by omega) g2 (g1.congr (upd_n _ _ (by decide)) (upd_n _ _ (by decide)) (upd_n _ _ (by decide)) (upd_n _ _ (by decide))) (by rw [upd_s, upd_s]) g4 (g5.trans (upd_n _ _ (by decide)).symm)
      exact ⟨E, R, om', st', o', w', la', wl', po', t1, fun k h1 h2 h3 => (t2 k h1 h2 h3).trans ((upd_n _ _ h3).trans (g3 k h1 h2)), t3, t4, t5, t6⟩
theorem drawn_lock {n G D c : Nat} (hn : 100 ≤ n) {ho kind sinks mate dg dr dm r : Nat → Int32} (hH : HR G D ho kind sinks mate dg dr dm r) (hsk : ∀ g, g < G → ∃ q, q ≤ 20 ∧ sinks g = nI q) {o w la st : Nat → Int32} (hN : NR G o w la st) (hc : st 14 = nI c) (hcb : c ≤ 1000) (oo t0 tw tl twl po om tr : Nat → Int32) (hp0 : po 0 = 1) (hp1 : po 1 = om 23) :
    ∃ E R o' w' la' wl' po' om' tr', fX9_endsDrawn n oo ho kind sinks mate dg dr dm o w la t0 tw tl twl po = some (R, o', w', la', wl', po') ∧ fX10_endsDrawn n om r st tr = some (E, om', tr') ∧ (∀ k, k ≠ 22 → k ≠ 23 → k ≠ 24 → om' k = om k) ∧
      ((∃ e, e ≤ 60 ∧ E = nI e ∧ R = nI e ∧ o' 5 = om' 24) ∨ (E = -2 ∧ R = 61)) ∧ po' 0 = 1 ∧ po' 1 = om' 23 := by
  have hG : G ≤ 7 := hH.1
  have hNc := hN.copy hG t0 tw tl tr
  obtain ⟨E, R, om', st', o', w', la', wl', po', t1, t2, t3, t4, t5, t6⟩ := endsD_lock hn hH hsk 60 0 n n c (upd (upd (upd (upd (upd t0 0 (o 0)) 1 (o 1)) 2 (o 2)) 3 (o 3)) 5 0) (va_cpy w tw 0 0 7) (va_cpy la tl 0 0 7) twl po (upd om 24 0) (va_cpy st tr 0 0 17) (by omega) (by omega) (by omega) (by omega) (by rw [cpy_lo (by omega)]; exact hc) (hNc.congr (upd_n _ _ (by decide)) (upd_n _ _ (by decide)) (upd_n _ _ (by decide)) (upd_n _ _ (by decide))) (by rw [upd_s, upd_s]) hp0 (hp1.trans (upd_n _ _ (by decide)).symm)
  refine ⟨E, R, o', w', la', wl', po', om', st', ?_, ?_, fun k h1 h2 h3 => (t2 k h1 h2 h3).trans (upd_n _ _ h3), t4, t5, t6⟩
  · rw [fX9_endsDrawn, become_eq, ob3_ss, fX2_runOut]
    refine (congrArg (fun z => ob6 z _) t3).trans ?_
    rfl
  · rw [fX10_endsDrawn, copy17 hn, ob1_ss, fX10_endsOn]
    refine (congrArg (fun z => ob3 z _) t1).trans ?_
    rfl
theorem often_lock {n G D c H N : Nat} (hn : 100 ≤ n) {ho kind sinks mate dg dr dm r : Nat → Int32} (hH : HR G D ho kind sinks mate dg dr dm r) (hsk : ∀ g, g < G → ∃ q, q ≤ 20 ∧ sinks g = nI q) {o w la st : Nat → Int32} (hN : NR G o w la st) (hc : st 14 = nI c) (hcb : c ≤ 1000) (hH6 : H ≤ 60) (hN90 : N ≤ 90) (oo : Nat → Int32)
    (K1 : Int32 → (Nat → Int32) → (Nat → Int32) → (Nat → Int32) → (Nat → Int32) → (Nat → Int32) → Option (Int32 × (Nat → Int32) × (Nat → Int32) × (Nat → Int32) × (Nat → Int32) × (Nat → Int32) × (Nat → Int32))) (K2 : Int32 → (Nat → Int32) → (Nat → Int32) → Option (Int32 × (Nat → Int32) × (Nat → Int32))) :
    ∀ (j k f1 f2 : Nat) (a : Int32) (t0 tw tl twl po om tr : Nat → Int32), k + j = N → j < f1 → j < f2 → po 0 = 1 → po 1 = om 23 →
      ∃ a' o' w' la' wl' po' om' tr', fX9_often_L43 n (nI N) (nI H) oo ho kind sinks mate dg dr dm o w la K1 f1 a (nI k) t0 tw tl twl po = K1 a' o' w' la' wl' po' ∧ fX10_often_L57 n (nI N) (nI H) r st K2 f2 a (nI k) om tr = K2 a' om' tr' ∧ (∀ k, k ≠ 22 → k ≠ 23 → k ≠ 24 → om' k = om k) ∧ po' 0 = 1 := by
  intro j
  induction j with
  | zero =>
    intro k f1 f2 a t0 tw tl twl po om tr hk hf1 hf2 hp0 hp1
    obtain ⟨u1, rfl⟩ : ∃ u, f1 = u + 1 := ⟨f1 - 1, by omega⟩
    obtain ⟨u2, rfl⟩ : ∃ u, f2 = u + 1 := ⟨f2 - 1, by omega⟩
    exact ⟨a, t0, tw, tl, twl, po, om, tr, by rw [fX9_often_L43, if_pos (nI_le (by omega) (by omega))], by rw [fX10_often_L57, if_pos (nI_le (by omega) (by omega))], fun _ _ _ _ => rfl, hp0⟩
  | succ j ih =>
    intro k f1 f2 a t0 tw tl twl po om tr hk hf1 hf2 hp0 hp1
    obtain ⟨u1, rfl⟩ : ∃ u, f1 = u + 1 := ⟨f1 - 1, by omega⟩
    obtain ⟨u2, rfl⟩ : ∃ u, f2 = u + 1 := ⟨f2 - 1, by omega⟩
    obtain ⟨E, R, o', w', la', wl', po', om', tr', e1, e2, e3, e4, e5, e6⟩ := drawn_lock hn hH hsk hN hc hcb oo t0 tw tl twl po om tr hp0 hp1
    rw [fX9_often_L43, if_neg (nI_ge (by omega) (by omega)), e1, ob6_ss, fX10_often_L57, if_neg (nI_ge (by omega) (by omega)), e2, ob3_ss, sI]
    have dec : (nI H < R ∧ fX10_in n E 0 (nI H) = some 0) ∨ (¬ nI H < R ∧ fX10_in n E 0 (nI H) = some 1) := by
      rcases e4 with ⟨e, he, z1, z2, -⟩ | ⟨z1, z2⟩
      · rw [z1, z2, fX10_in, if_neg (nI_pos (by omega))]
        by_cases q : H < e
        · exact Or.inl ⟨nI_lt q (by omega), by rw [if_pos (nI_lt q (by omega))]⟩
        · exact Or.inr ⟨nI_nlt (by omega) (by omega), by rw [if_neg (nI_nlt (by omega) (by omega))]⟩
      · rw [z1, z2]
        exact Or.inl ⟨nI_lt (b := 61) (by omega) (by omega), by rw [fX10_in, if_pos (by decide)]⟩
    rcases dec with ⟨d1, d2⟩ | ⟨d1, d2⟩
    · rw [if_pos d1, d2, ob1_ss, if_pos i00, Int32.add_zero]
      obtain ⟨a', q1, q2, q3, q4, q5, q6, q7, t1, t2, t3, t4⟩ := ih (k + 1) u1 u2 a o' w' la' wl' po' om' tr' (by omega) (by omega) (by omega) e5 e6
      exact ⟨a', q1, q2, q3, q4, q5, q6, q7, t1, t2, fun k h1 h2 h3 => (t3 k h1 h2 h3).trans (e3 k h1 h2 h3), t4⟩
    · rw [if_neg d1, d2, ob1_ss, if_neg i10]
      obtain ⟨a', q1, q2, q3, q4, q5, q6, q7, t1, t2, t3, t4⟩ := ih (k + 1) u1 u2 (a + 1) o' w' la' wl' po' om' tr' (by omega) (by omega) (by omega) e5 e6
      exact ⟨a', q1, q2, q3, q4, q5, q6, q7, t1, t2, fun k h1 h2 h3 => (t3 k h1 h2 h3).trans (e3 k h1 h2 h3), t4⟩
theorem keeps_lock {n G D c g N : Nat} (hn : 100 ≤ n) {ho kind sinks mate dg dr dm r : Nat → Int32} (hH : HR G D ho kind sinks mate dg dr dm r) (hsk : ∀ g, g < G → ∃ q, q ≤ 20 ∧ sinks g = nI q) {o w la st : Nat → Int32} (hN : NR G o w la st) (hc : st 14 = nI c) (hcb : c ≤ 1000) (hg : g < 7) (hN90 : N ≤ 90) (oo : Nat → Int32)
    (K1 : Int32 → (Nat → Int32) → (Nat → Int32) → (Nat → Int32) → (Nat → Int32) → (Nat → Int32) → Option (Int32 × (Nat → Int32) × (Nat → Int32) × (Nat → Int32) × (Nat → Int32) × (Nat → Int32) × (Nat → Int32))) (K2 : Int32 → (Nat → Int32) → (Nat → Int32) → Option (Int32 × (Nat → Int32) × (Nat → Int32))) :
    ∀ (j k f1 f2 : Nat) (a : Int32) (t0 tw tl twl po om tr : Nat → Int32), k + j = N → j < f1 → j < f2 → po 0 = 1 → po 1 = om 23 →
      ∃ a' o' w' la' wl' po' om' tr', fX9_keeps_L33 n (nI g) (nI N) oo ho kind sinks mate dg dr dm o w la K1 f1 a (nI k) t0 tw tl twl po = K1 a' o' w' la' wl' po' ∧ fX10_keeps_L40 n (nI g) (nI N) r st K2 f2 a (nI k) om tr = K2 a' om' tr' ∧ (∀ k, k ≠ 22 → k ≠ 23 → k ≠ 24 → om' k = om k) ∧ po' 0 = 1 := by
  have l60 : (60 : Int32) = nI 60 := rfl
  intro j
  induction j with
  | zero =>
    intro k f1 f2 a t0 tw tl twl po om tr hk hf1 hf2 hp0 hp1
    obtain ⟨u1, rfl⟩ : ∃ u, f1 = u + 1 := ⟨f1 - 1, by omega⟩
    obtain ⟨u2, rfl⟩ : ∃ u, f2 = u + 1 := ⟨f2 - 1, by omega⟩
    exact ⟨a, t0, tw, tl, twl, po, om, tr, by rw [fX9_keeps_L33, if_pos (nI_le (by omega) (by omega))], by rw [fX10_keeps_L40, if_pos (nI_le (by omega) (by omega))], fun _ _ _ _ => rfl, hp0⟩
  | succ j ih =>
    intro k f1 f2 a t0 tw tl twl po om tr hk hf1 hf2 hp0 hp1
    obtain ⟨u1, rfl⟩ : ∃ u, f1 = u + 1 := ⟨f1 - 1, by omega⟩
    obtain ⟨u2, rfl⟩ : ∃ u, f2 = u + 1 := ⟨f2 - 1, by omega⟩
    obtain ⟨E, R, o', w', la', wl', po', om', tr', e1, e2, e3, e4, e5, e6⟩ := drawn_lock hn hH hsk hN hc hcb oo t0 tw tl twl po om tr hp0 hp1
    rw [fX9_keeps_L33, if_neg (nI_ge (by omega) (by omega)), e1, ob6_ss, fX10_keeps_L40, if_neg (nI_ge (by omega) (by omega)), e2, ob3_ss, sI]
    have stay := ih (k + 1) u1 u2 a o' w' la' wl' po' om' tr' (by omega) (by omega) (by omega) e5 e6
    have more := ih (k + 1) u1 u2 (a + 1) o' w' la' wl' po' om' tr' (by omega) (by omega) (by omega) e5 e6
    obtain ⟨a', q1, q2, q3, q4, q5, q6, q7, t1, t2, t3, t4⟩ := stay
    obtain ⟨b', p1, p2, p3, p4, p5, p6, p7, s1, s2, s3, s4⟩ := more
    rcases e4 with ⟨e, he, z1, z2, z3⟩ | ⟨z1, z2⟩
    · rw [z1, z2, l60, if_neg (nI_nlt (by omega) (by omega)), if_neg (nI_pos (by omega)), inBitsS n _ (by omega), ob1_ss, z3, hasBitS n _ (by omega), ob1_ss]
      by_cases hb : bt (om' 24) g = true
      · rw [if_pos hb, if_neg i10, if_neg i10]
        exact ⟨b', p1, p2, p3, p4, p5, p6, p7, s1, s2, fun k h1 h2 h3 => (s3 k h1 h2 h3).trans (e3 k h1 h2 h3), s4⟩
      · rw [if_neg hb, if_pos i00, if_pos i00, Int32.add_zero]
        exact ⟨a', q1, q2, q3, q4, q5, q6, q7, t1, t2, fun k h1 h2 h3 => (t3 k h1 h2 h3).trans (e3 k h1 h2 h3), t4⟩
    · rw [z1, z2, if_pos (by decide), if_pos (by decide), Int32.add_zero]
      exact ⟨a', q1, q2, q3, q4, q5, q6, q7, t1, t2, fun k h1 h2 h3 => (t3 k h1 h2 h3).trans (e3 k h1 h2 h3), t4⟩
theorem mean_lock {n G D c N : Nat} (hn : 100 ≤ n) {ho kind sinks mate dg dr dm r : Nat → Int32} (hH : HR G D ho kind sinks mate dg dr dm r) (hsk : ∀ g, g < G → ∃ q, q ≤ 20 ∧ sinks g = nI q) {o w la st : Nat → Int32} (hN : NR G o w la st) (hc : st 14 = nI c) (hcb : c ≤ 1000) (hN90 : N ≤ 90) (x3 : Int32) (oo : Nat → Int32)
    (K1 : Int32 → Int32 → (Nat → Int32) → (Nat → Int32) → (Nat → Int32) → (Nat → Int32) → (Nat → Int32) → Option (Int64 × (Nat → Int32) × (Nat → Int32) × (Nat → Int32) × (Nat → Int32) × (Nat → Int32) × (Nat → Int32))) (K2 : Int64 → Int64 → (Nat → Int32) → (Nat → Int32) → Option (Int64 × (Nat → Int32) × (Nat → Int32))) :
    ∀ (j k f1 f2 s m : Nat) (t0 tw tl twl po om tr : Nat → Int32), k + j = N → j < f1 → j < f2 → s ≤ 60 * k → m ≤ k → po 0 = 1 → po 1 = om 23 →
      ∃ s' m' o' w' la' wl' po' om' tr', s' ≤ 60 * N ∧ m' ≤ N ∧ fX9_mean_L37 n (nI N) x3 oo ho kind sinks mate dg dr dm o w la K1 f1 (nI s) (nI m) (nI k) t0 tw tl twl po = K1 (nI s') (nI m') o' w' la' wl' po' ∧ fX10_mean_L43 n (nI N) x3 r st K2 f2 (lN s) (lN m) (nI k) om tr = K2 (lN s') (lN m') om' tr' ∧ (∀ k, k ≠ 22 → k ≠ 23 → k ≠ 24 → om' k = om k) ∧ po' 0 = 1 ∧ (m' = 0 → m = 0 ∧ s' = s) := by
  have l60 : (60 : Int32) = nI 60 := rfl
  have la0 : ∀ a : Nat, lN a + 0 = lN a := fun a => by rw [show (0 : Int64) = lN 0 from rfl, lN_add, Nat.add_zero]
  intro j
  induction j with
  | zero =>
    intro k f1 f2 s m t0 tw tl twl po om tr hk hf1 hf2 hs hm hp0 hp1
    obtain ⟨u1, rfl⟩ : ∃ u, f1 = u + 1 := ⟨f1 - 1, by omega⟩
    obtain ⟨u2, rfl⟩ : ∃ u, f2 = u + 1 := ⟨f2 - 1, by omega⟩
    exact ⟨s, m, t0, tw, tl, twl, po, om, tr, by omega, by omega, by rw [fX9_mean_L37, if_pos (nI_le (by omega) (by omega))], by rw [fX10_mean_L43, if_pos (nI_le (by omega) (by omega))], fun _ _ _ _ => rfl, hp0, fun q => ⟨q, rfl⟩⟩
  | succ j ih =>
    intro k f1 f2 s m t0 tw tl twl po om tr hk hf1 hf2 hs hm hp0 hp1
    obtain ⟨u1, rfl⟩ : ∃ u, f1 = u + 1 := ⟨f1 - 1, by omega⟩
    obtain ⟨u2, rfl⟩ : ∃ u, f2 = u + 1 := ⟨f2 - 1, by omega⟩
    obtain ⟨E, R, o', w', la', wl', po', om', tr', e1, e2, e3, e4, e5, e6⟩ := drawn_lock hn hH hsk hN hc hcb oo t0 tw tl twl po om tr hp0 hp1
    rw [fX9_mean_L37, if_neg (nI_ge (by omega) (by omega)), e1, ob6_ss, fX10_mean_L43, if_neg (nI_ge (by omega) (by omega)), e2, ob3_ss, sI]
    rcases e4 with ⟨e, he, z1, z2, z3⟩ | ⟨z1, z2⟩
    · rw [z1, z2, l60, if_neg (nI_nlt (by omega) (by omega)), if_pos (nI_pos' (by omega)), if_pos (nI_pos' (by omega)), nI_l (by omega), lN_add, lN_1, addI, sI]
      obtain ⟨s', m', q1, q2, q3, q4, q5, q6, q7, b1, b2, t1, t2, t3, t4, t5⟩ := ih (k + 1) u1 u2 (s + e) (m + 1) o' w' la' wl' po' om' tr' (by omega) (by omega) (by omega) (by omega) (by omega) e5 e6
      exact ⟨s', m', q1, q2, q3, q4, q5, q6, q7, b1, b2, t1, t2, fun k h1 h2 h3 => (t3 k h1 h2 h3).trans (e3 k h1 h2 h3), t4, fun q => absurd (t5 q).1 (by omega)⟩
    · rw [z1, z2, if_pos (by decide), if_neg (by decide), if_neg (by decide), la0, la0]
      obtain ⟨s', m', q1, q2, q3, q4, q5, q6, q7, b1, b2, t1, t2, t3, t4, t5⟩ := ih (k + 1) u1 u2 s m o' w' la' wl' po' om' tr' (by omega) (by omega) (by omega) (by omega) (by omega) e5 e6
      exact ⟨s', m', q1, q2, q3, q4, q5, q6, q7, b1, b2, t1, t2, fun k h1 h2 h3 => (t3 k h1 h2 h3).trans (e3 k h1 h2 h3), t4, t5⟩
/-! the common part -/
theorem cp_loop {n a b : Nat} (ha : a ≤ 10000) (hb : b ≤ 100) (hb1 : 1 ≤ b) : ∀ (j f : Nat), Nat.gcd a b ≤ j → j ≤ b → j < f → fX9_commonPart_L2 n (nI a) (nI b) (fun _ => some 1) f (nI j) = some (nI (Nat.gcd a b)) := by
  have hg : 0 < Nat.gcd a b := Nat.gcd_pos_of_pos_right a hb1
  intro j
  induction j with
  | zero => intro f h1 h2 h3; omega
  | succ j ih =>
    intro f h1 h2 h3
    obtain ⟨u, rfl⟩ : ∃ u, f = u + 1 := ⟨f - 1, by omega⟩
    rw [fX9_commonPart_L2]
    by_cases hj : j = 0
    · subst hj
      rw [if_pos (show nI (0 + 1) ≤ 1 by decide), show Nat.gcd a b = 1 by omega]; rfl
    · rw [if_neg (show ¬ nI (j + 1) ≤ 1 from nI_ge (a := 1) (by omega) (by omega)), if_neg (nI_ne0 (n := j + 1) (by omega) (by omega)), pk_rem (by omega) (by omega) (by omega), pk_rem (by omega) (by omega) (by omega), if_neg (nI_ne0 (n := j + 1) (by omega) (by omega)), pk_m1]
      have hma : a % (j + 1) < j + 1 := Nat.mod_lt _ (by omega)
      have hmb : b % (j + 1) < j + 1 := Nat.mod_lt _ (by omega)
      by_cases hd : (j + 1) ∣ a ∧ (j + 1) ∣ b
      · have e : Nat.gcd a b = j + 1 := by
          have := Nat.le_of_dvd hg (Nat.dvd_gcd hd.1 hd.2)
          omega
        rw [Nat.mod_eq_zero_of_dvd hd.1, Nat.mod_eq_zero_of_dvd hd.2, if_pos (show nI 0 = 0 from rfl), if_pos (show nI 0 = 0 from rfl), e]
      · have hne : Nat.gcd a b ≠ j + 1 := fun e => hd ⟨e ▸ Nat.gcd_dvd_left a b, e ▸ Nat.gcd_dvd_right a b⟩
        have nx := ih u (by omega) (by omega) (by omega)
        rw [nx]
        by_cases h4 : a % (j + 1) = 0
        · rw [h4, if_pos (show nI 0 = 0 from rfl), if_neg (nI_ne0 (Nat.pos_of_ne_zero (fun q => hd ⟨Nat.dvd_of_mod_eq_zero h4, Nat.dvd_of_mod_eq_zero q⟩)) (by omega))]
        · rw [if_neg (nI_ne0 (Nat.pos_of_ne_zero h4) (by omega))]
theorem cpS {n a b : Nat} (hn : 200 ≤ n) (ha : a ≤ 10000) (hb : b ≤ 100) (hb1 : 1 ≤ b) : fX9_commonPart n (nI a) (nI b) = some (nI (Nat.gcd a b)) := by
  rw [fX9_commonPart]
  exact cp_loop ha hb hb1 b n (Nat.gcd_le_right a hb1) (Nat.le_refl b) (by omega)
theorem eu_loop {n : Nat} {x0 x2 : Int64} {x4 : Int32} (K : Int64 → Option Int64) : ∀ (y x f : Nat), x ≤ 10000 → y ≤ 10000 → y < f → fX10_lowest_L6 n x0 x2 x4 K f (lN x) (lN y) = K (lN (Nat.gcd x y)) := by
  intro y
  induction y using Nat.strongRecOn with
  | ind y ih =>
    intro x f hx hy hf
    obtain ⟨u, rfl⟩ : ∃ u, f = u + 1 := ⟨f - 1, by omega⟩
    rw [fX10_lowest_L6]
    by_cases h0 : y = 0
    · subst h0
      rw [if_pos (show lg_cmp (lN 0) 0 = 0 from (lg_cmp_eq _ _).mpr rfl), Nat.gcd_zero_right]
    · have hne : ¬ lN y = 0 := fun q => h0 ((lN_eq (by omega) (by omega)).mp (q.trans (show (0 : Int64) = lN 0 from rfl)))
      rw [if_neg (fun q => hne ((lg_cmp_eq _ _).mp q)), if_neg hne, pk_lRem (by omega) (by omega) (by omega)]
      have hm : x % y < y := Nat.mod_lt _ (by omega)
      rw [ih (x % y) hm y u (by omega) (by omega) (by omega), Nat.gcd_comm y, ← Nat.gcd_rec, Nat.gcd_comm]
theorem lowestS {n a b : Nat} {x4 : Int32} (hn : 200 ≤ n) (ha : a ≤ 10000) (hb : b ≤ 90) (hb1 : 1 ≤ b) : fX10_lowest n (lN a) (lN b) x4 = some (if x4 = 0 then lN (a / Nat.gcd a b) else lN (b / Nat.gcd a b)) := by
  have hg : 0 < Nat.gcd a b := Nat.gcd_pos_of_pos_right a hb1
  have hgb := Nat.gcd_le_right a hb1
  have hne : ¬ lN (Nat.gcd a b) = 0 := fun q => by
    have := (lN_eq (by omega) (by omega)).mp (q.trans (show (0 : Int64) = lN 0 from rfl))
    omega
  have e : fX10_lowest n (lN a) (lN b) x4 = (if x4 = 0 then if lN (Nat.gcd a b) = 0 then none else some (lN a / lN (Nat.gcd a b)) else if lN (Nat.gcd a b) = 0 then none else some (lN b / lN (Nat.gcd a b))) := by
    rw [fX10_lowest]
    obtain ⟨m, rfl⟩ : ∃ m, n = m + 1 := ⟨n - 1, by omega⟩
    by_cases h0 : a = 0
    · subst h0
      rw [eu_loop _ 0 b (m + 1) (by omega) (by omega) (by omega), Nat.gcd_comm]
    · have hne : ¬ lN a = 0 := fun q => h0 ((lN_eq (by omega) (by omega)).mp (q.trans (show (0 : Int64) = lN 0 from rfl)))
      have hm : b % a ≤ b := Nat.mod_le _ _
      rw [fX10_lowest_L6, if_neg (fun q => hne ((lg_cmp_eq _ _).mp q)), if_neg hne, pk_lRem (by omega) (by omega) (by omega), eu_loop _ (b % a) a m (by omega) (by omega) (by omega), Nat.gcd_comm a (b % a), ← Nat.gcd_rec]
  rw [e, if_neg hne, if_neg hne, pk_lDiv (by omega) hg (by omega), pk_lDiv (by omega) hg (by omega)]
  by_cases h : x4 = 0
  · rw [if_pos h, if_pos h]
  · rw [if_neg h, if_neg h]
