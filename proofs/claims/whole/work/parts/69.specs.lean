/-! what the asking calls try: a cup, some sent home, tired ones, a tale -/
theorem NR.cg {G : Nat} (hG : G ≤ 7) {o w la st o' w' la' st' : Nat → Int32} (h : NR G o w la st) (h0 : o' 0 = o 0) (h1 : o' 1 = o 1) (h2 : o' 2 = o 2) (hw : ∀ g, g < G → w' g = w g) (hl : ∀ g, g < G → la' g = la g) (hs : ∀ i, i < 16 → st' i = st i) : NR G o' w' la' st' := by
  obtain ⟨a, b, c, d, e, f, g, i⟩ := h
  refine ⟨h0.trans (a.trans (hs 14 (by omega)).symm), h2.trans (b.trans (hs 15 (by omega)).symm), c, fun k hk => (hw k hk).trans ((d k hk).trans (hs k (by omega)).symm), fun k hk => ?_, fun k hk hb => ?_, fun k hk hb => ?_, fun k k1 k2 => ?_⟩
  · rw [h1, hs (7 + k) (by omega)]; exact e k hk
  · rw [h1] at hb; rw [hs (7 + k) (by omega), hl k hk]; exact f k hk hb
  · rw [h1] at hb; rw [hl k hk]; exact g k hk hb
  · rw [h1]; exact i k k1 k2
theorem NR.want {G g : Nat} (hG : G ≤ 7) (hg : g < G) {o w la st : Nat → Int32} (h : NR G o w la st) (x : Int32) : NR G o (upd w g x) la (upd st g x) := by
  obtain ⟨a, b, c, d, e, f, g', i⟩ := h
  refine ⟨by rw [upd_n _ _ (by omega)]; exact a, by rw [upd_n _ _ (by omega)]; exact b, c, fun k hk => ?_, fun k hk => ?_, fun k hk hb => ?_, g', i⟩
  · by_cases q : k = g
    · subst q; rw [upd_s, upd_s]
    · rw [upd_n _ _ q, upd_n _ _ q]; exact d k hk
  · rw [upd_n _ _ (by omega)]; exact e k hk
  · rw [upd_n _ _ (by omega)]; exact f k hk hb
/-- with a cup -/
theorem woken_spec {n G D c g : Nat} (hn : 100 ≤ n) {ho kind sinks mate dg dr dm r : Nat → Int32} (hH : HR G D ho kind sinks mate dg dr dm r) (h1 : ho 1 = r 1) {po : Nat → Int32} (hpo : po 0 = 0) {o w la st : Nat → Int32} (hN : NR G o w la st) (hc : st 14 = nI c) (hcb : c ≤ 100000) (hg : g < G) :
    ∃ v : Option Nat, (∀ e, v = some e → e ≤ 60) ∧ (∀ oo t0 tw tl twl, ∃ o' w' la' wl', fX9_endsWoken n (nI g) oo ho kind sinks mate dg dr dm o w la t0 tw tl twl po = some (encR 60 v, o', w', la', wl', po)) ∧
      (∀ om tr, ∃ om' tr', fX10_endsByCup n (nI g) om r st tr = some (encE v, om', tr') ∧ ∀ k, k ≠ 22 → k ≠ 24 → om' k = om k) := by
  have hG : G ≤ 7 := hH.1
  have h0 := hN.want hG hg (w g + ho 1)
  have l60 : (60 : Int32) = nI 60 := rfl
  obtain ⟨v, L, hv, cls, mdl⟩ := run_spec hn hH hpo h0 (by rw [upd_n _ _ (by omega)]; exact hc) hcb
  refine ⟨v, hv, fun oo t0 tw tl twl => ?_, fun om tr => ?_⟩
  · obtain ⟨o', w', la', wl', e1, -⟩ := cls (upd (upd (upd (upd t0 0 (o 0)) 1 (o 1)) 2 (o 2)) 3 (o 3)) (upd (va_cpy w tw 0 0 7) g (va_cpy w tw 0 0 7 g + ho 1)) (va_cpy la tl 0 0 7) twl (h0.cg hG rfl rfl rfl (fun k hk => by
      by_cases q : k = g
      · subst q; rw [upd_s, upd_s, cpy_lo (by omega)]
      · rw [upd_n _ _ q, upd_n _ _ q, cpy_lo (by omega)]) (fun k hk => cpy_lo (by omega)) (fun _ _ => rfl)) 60 (by omega)
    exact ⟨o', w', la', wl', by rw [fX9_endsWoken, become_eq, ob3_ss, if_neg (ckI (by omega) (by omega)), if_neg (ckI (by omega) (by omega)), clI (by omega), l60, e1, ob6_ss]⟩
  · obtain ⟨om', st', e1, e2, -⟩ := mdl om (upd (va_cpy st tr 0 0 17) g (va_cpy st tr 0 0 17 g + r 1)) (h0.cg hG rfl rfl rfl (fun _ _ => rfl) (fun _ _ => rfl) (fun k hk => by
      by_cases q : k = g
      · subst q; rw [upd_s, upd_s, cpy_lo (by omega), ← h1, hN.2.2.2.1 k hg]
      · rw [upd_n _ _ q, upd_n _ _ q, cpy_lo (by omega)]))
    exact ⟨om', st', by rw [fX10_endsByCup, copy17 hn, ob1_ss, if_neg (ckI (by omega) (by omega)), if_neg (ckI (by omega) (by omega)), clI (by omega), e1, ob3_ss], e2⟩
/-- nobody leaves where nobody is unwilling -/
theorem set_leaves {n G D c : Nat} (hn : 10 ≤ n) {ho kind sinks mate dg dr dm r : Nat → Int32} (hH : HR G D ho kind sinks mate dg dr dm r) {o w la st : Nat → Int32} (hN : NR G o w la st) (hS : SET G D o w kind dg dr dm) (om : Nat → Int32) : fX10_leaves n om r st = some (0, upd (upd om 22 0) 22 (upd om 22 0 22 + 0), st) := by
  obtain ⟨u, hu, -⟩ := weighS (n := n) hn (o := o) (want := w) (will := w) hH
  obtain ⟨X, -, hX, hM⟩ := who_lock hn hH hN hu
  have e0 : X = 0 := no_bits (fun i hi => by
    rw [hX i hi]
    by_cases h : i < G
    · have := hS i h
      rw [uP, hu i h]
      simp only [this, Bool.and_false]
    · simp [h])
  subst e0
  obtain ⟨b, rfl⟩ : ∃ b, n = b + 2 := ⟨n - 2, by omega⟩
  rw [fX10_leaves]
  exact lvs_end hn hH.1 hH.2.2.1 (hM 0 (upd om 22 0))
/-- without some of them -/
theorem less_spec {n G D c : Nat} (hn : 100 ≤ n) {ho kind sinks mate dg dr dm r : Nat → Int32} (hH : HR G D ho kind sinks mate dg dr dm r) {po : Nat → Int32} (hpo : po 0 = 0) {o w la st : Nat → Int32} (hN : NR G o w la st) (hS : SET G D o w kind dg dr dm) (hc : st 14 = nI c) (hcb : c ≤ 100000) {who : Int32} (hwho : ∀ i, G ≤ i → i < 32 → bt who i = false) :
    ∃ v : Option Nat, (∀ e, v = some e → e ≤ 60) ∧ (∀ h, h ≤ 60 → ∀ oo t0 tw tl twl, ∃ o' w' la' wl', fX9_endsLess n who (nI h) oo ho kind sinks mate dg dr dm o w la t0 tw tl twl po = some (encR h v, o', w', la', wl', po)) ∧
      (∀ om tr, ∃ om' tr', fX10_endsIf n who om r st tr = some (encE v, om', tr') ∧ ∀ k, k ≠ 22 → k ≠ 24 → om' k = om k) := by
  have hG : G ≤ 7 := hH.1
  obtain ⟨X, o1, w1, la1, st1, hN1, hc1, -, c1, m1⟩ := send_spec (n := n) (by omega) hH hwho hN hc hcb
  obtain ⟨v, L, hv, cls, mdl⟩ := run_spec hn hH hpo hN1 hc1 hcb
  refine ⟨v, hv, fun h hh oo t0 tw tl twl => ?_, fun om tr => ?_⟩
  · obtain ⟨o2, w2, la2, wl2, e1, e2⟩ := c1 (upd (upd (upd (upd t0 0 (o 0)) 1 (o 1)) 2 (o 2)) 3 (o 3)) (va_cpy w tw 0 0 7) (va_cpy la tl 0 0 7) twl (hN.cg hG rfl rfl rfl (fun k hk => cpy_lo (by omega)) (fun k hk => cpy_lo (by omega)) (fun _ _ => rfl))
    obtain ⟨o', w', la', wl', e3, -⟩ := cls o2 w2 la2 wl2 e2 h hh
    exact ⟨o', w', la', wl', by rw [fX9_endsLess, become_eq, ob3_ss, e1, ob5_ss, e3, ob6_ss]⟩
  · have hcp : NR G o w la (va_cpy st tr 0 0 17) := hN.cg hG rfl rfl rfl (fun _ _ => rfl) (fun _ _ => rfl) (fun k hk => cpy_lo (by omega))
    obtain ⟨om2, st2, e1, e2, e3⟩ := m1 om (va_cpy st tr 0 0 17) hcp
    by_cases h0 : who = 0
    · subst h0
      rw [fX10_sends, goes0 (by omega) hG hH.2.2.1, ob1_ss, set_leaves (c := c) (by omega) hH hcp hS, ob3_ss] at e1
      obtain ⟨-, e4⟩ := Prod.mk.inj (Option.some.inj e1)
      obtain ⟨-, e5⟩ := Prod.mk.inj e4
      rw [← e5] at e3
      obtain ⟨om', st', f1, f2, -⟩ := mdl om (va_cpy st tr 0 0 17) e3
      exact ⟨om', st', by rw [fX10_endsIf, copy17 hn, ob1_ss, if_pos i00, f1, ob3_ss], f2⟩
    · obtain ⟨om', st', f1, f2, -⟩ := mdl om2 st2 e3
      exact ⟨om', st', by rw [fX10_endsIf, copy17 hn, ob1_ss, if_neg h0, e1, ob3_ss, f1, ob3_ss], fun k k1 k2 => (f2 k k1 k2).trans (e2 k k1)⟩
/-- all there tire -/
theorem tire_c {n G : Nat} (hG : G ≤ 7) {o ho : Nat → Int32} (h3 : ho 3 = nI G) (v : Int32) (w0 : Nat → Int32) (K : (Nat → Int32) → Option (Nat → Int32)) :
    ∀ (j k f : Nat) (w : Nat → Int32), k + j = G → j < f → (∀ i, w i = if i < k ∧ bt (o 1) i = true then w0 i - v else w0 i) → ∃ w', (∀ i, w' i = if i < G ∧ bt (o 1) i = true then w0 i - v else w0 i) ∧ fX2_tire_L2 n v o ho K f (nI k) w = K w' := by
  intro j
  induction j with
  | zero =>
    intro k f w hk hf hw
    obtain ⟨u, rfl⟩ : ∃ u, f = u + 1 := ⟨f - 1, by omega⟩
    have e : k = G := by omega
    subst e
    exact ⟨w, hw, by rw [fX2_tire_L2, h3, if_pos (nI_le (by omega) (by omega))]⟩
  | succ j ih =>
    intro k f w hk hf hw
    obtain ⟨u, rfl⟩ : ∃ u, f = u + 1 := ⟨f - 1, by omega⟩
    rw [fX2_tire_L2, h3, if_neg (nI_ge (by omega) (by omega)), sI]
    by_cases hb : bt (o 1) k = true
    · rw [has_y (by omega) hb, ob1_ss, if_neg i10, if_neg (ckI (by omega) (by omega)), if_neg (ckI (by omega) (by omega)), clI (by omega)]
      refine ih (k + 1) u _ (by omega) (by omega) (fun i => ?_)
      by_cases e : i = k
      · subst e; rw [upd_s, hw i, if_neg (fun q => absurd q.1 (by omega)), if_pos ⟨by omega, hb⟩]
      · rw [upd_n _ _ e, hw i]
        by_cases q : i < k ∧ bt (o 1) i = true
        · rw [if_pos q, if_pos ⟨by omega, q.2⟩]
        · rw [if_neg q, if_neg (fun z => q ⟨by omega, z.2⟩)]
    · rw [has_n (by omega) hb, ob1_ss, if_pos i00]
      refine ih (k + 1) u _ (by omega) (by omega) (fun i => ?_)
      rw [hw i]
      by_cases q : i < k ∧ bt (o 1) i = true
      · rw [if_pos q, if_pos ⟨by omega, q.2⟩]
      · rw [if_neg q, if_neg (fun z => q ⟨by
          have : i ≠ k := fun e => hb (e ▸ z.2)
          omega, z.2⟩)]
theorem tireS {n G : Nat} (hn : 10 ≤ n) (hG : G ≤ 7) {o ho : Nat → Int32} (h3 : ho 3 = nI G) (v : Int32) (w : Nat → Int32) : ∃ w', (∀ i, w' i = if i < G ∧ bt (o 1) i = true then w i - v else w i) ∧ fX2_tire n v o w ho = some w' := by
  obtain ⟨w', h1, h2⟩ := tire_c (n := n) (o := o) hG h3 v w (fun x => some x) G 0 n w (by omega) (by omega) (fun i => by rw [if_neg (fun q => absurd q.1 (Nat.not_lt_zero i))])
  exact ⟨w', h1, by rw [fX2_tire]; exact h2⟩
theorem tire_m {n G : Nat} (hG : G ≤ 7) {Z : Type} (v : Int32) (s0 : Nat → Int32) {F : Nat → Int32 → (Nat → Int32) → Option Z} {K : (Nat → Int32) → Option Z}
    (hF : ∀ f x s, F (f + 1) x s = if nI G ≤ x then K s else if x < 0 ∨ 17 ≤ x.toNatClampNeg then none else ob1 (fX10_isIn n x s) (fun u => if u = 0 then if x < 0 ∨ 17 ≤ x.toNatClampNeg then none else F f (x + 1) (upd s x.toNatClampNeg (s x.toNatClampNeg - 0)) else if x < 0 ∨ 17 ≤ x.toNatClampNeg then none else F f (x + 1) (upd s x.toNatClampNeg (s x.toNatClampNeg - v)))) :
    ∀ (j k f : Nat) (s : Nat → Int32), k + j = G → j < f → (∀ i, s i = if i < k ∧ s0 (7 + i) = 0 then s0 i - v else s0 i) → ∃ s', (∀ i, s' i = if i < G ∧ s0 (7 + i) = 0 then s0 i - v else s0 i) ∧ F f (nI k) s = K s' := by
  intro j
  induction j with
  | zero =>
    intro k f s hk hf hs
    obtain ⟨u, rfl⟩ : ∃ u, f = u + 1 := ⟨f - 1, by omega⟩
    have e : k = G := by omega
    subst e
    exact ⟨s, hs, by rw [hF, if_pos (nI_le (by omega) (by omega))]⟩
  | succ j ih =>
    intro k f s hk hf hs
    obtain ⟨u, rfl⟩ : ∃ u, f = u + 1 := ⟨f - 1, by omega⟩
    have e7 : s (7 + k) = s0 (7 + k) := by rw [hs (7 + k), if_neg (fun q => absurd q.1 (by omega))]
    rw [hF, if_neg (nI_ge (by omega) (by omega)), if_neg (ckI (by omega) (by omega)), clI (by omega), sI, if_neg (ckK (by omega) (by omega))]
    by_cases hb : s0 (7 + k) = 0
    · rw [isIn_y (by omega) (e7.trans hb), ob1_ss, if_neg i10, if_neg (ckK (by omega) (by omega))]
      refine ih (k + 1) u _ (by omega) (by omega) (fun i => ?_)
      by_cases e : i = k
      · subst e; rw [upd_s, hs i, if_neg (fun q => absurd q.1 (by omega)), if_pos ⟨by omega, hb⟩]
      · rw [upd_n _ _ e, hs i]
        by_cases q : i < k ∧ s0 (7 + i) = 0
        · rw [if_pos q, if_pos ⟨by omega, q.2⟩]
        · rw [if_neg q, if_neg (fun z => q ⟨by omega, z.2⟩)]
    · rw [isIn_n (by omega) (fun q => hb (e7.symm.trans q)), ob1_ss, if_pos i00]
      refine ih (k + 1) u _ (by omega) (by omega) (fun i => ?_)
      by_cases e : i = k
      · subst e; rw [upd_s, Int32.sub_zero, hs i, if_neg (fun q => absurd q.1 (by omega)), if_neg (fun q => hb q.2)]
      · rw [upd_n _ _ e, hs i]
        by_cases q : i < k ∧ s0 (7 + i) = 0
        · rw [if_pos q, if_pos ⟨by omega, q.2⟩]
        · rw [if_neg q, if_neg (fun z => q ⟨by omega, z.2⟩)]
theorem NR.tire {G : Nat} (hG : G ≤ 7) {o w la st w' st' : Nat → Int32} (v : Int32) (h : NR G o w la st) (hw : ∀ i, w' i = if i < G ∧ bt (o 1) i = true then w i - v else w i) (hs : ∀ i, st' i = if i < G ∧ st (7 + i) = 0 then st i - v else st i) : NR G o w' la st' := by
  obtain ⟨a, b, c, d, e, f, g, i⟩ := h
  have hs' : ∀ i, 7 ≤ i → st' i = st i := fun i hi => by rw [hs i, if_neg (fun q => absurd q.1 (by omega))]
  refine ⟨by rw [hs' 14 (by omega)]; exact a, by rw [hs' 15 (by omega)]; exact b, c, fun k hk => ?_, fun k hk => by rw [hs' (7 + k) (by omega)]; exact e k hk, fun k hk hb => by rw [hs' (7 + k) (by omega)]; exact f k hk hb, g, i⟩
  rw [hw k, hs k, d k hk]
  by_cases q : bt (o 1) k = true
  · rw [if_pos ⟨hk, q⟩, if_pos ⟨hk, (e k hk).mp q⟩]
  · rw [if_neg (fun z => q z.2), if_neg (fun z => q ((e k hk).mpr z.2))]
