/-! houses told a little otherwise -/
theorem HR.grief {G D : Nat} {ho kind sinks mate dg dr dm r : Nat → Int32} (h : HR G D ho kind sinks mate dg dr dm r) (x : Int32) : HR G D (upd ho 2 x) kind sinks mate dg dr dm (upd r 2 x) := by
  obtain ⟨a1, a2, a3, a4, a5, a6, a7, a8, a9, a10, a11⟩ := h
  refine ⟨a1, by rw [upd_n _ _ (by decide)]; exact a2, by rw [upd_n _ _ (by decide)]; exact a3, by rw [upd_s, upd_s], fun g hg => by rw [upd_n _ _ (by omega)]; exact a5 g hg, fun g hg => by rw [upd_n _ _ (by omega)]; exact a6 g hg, fun g hg => by rw [upd_n _ _ (by omega)]; exact a7 g hg, a8, by rw [upd_n _ _ (by decide)]; exact a9, a10, fun a ha b hb hab => by rw [upd_n _ _ (by omega)]; exact a11 a ha b hb hab⟩
theorem HR.undraw {G D d a b : Nat} {ho kind sinks mate dg dr dm r : Nat → Int32} (h : HR G D ho kind sinks mate dg dr dm r) (unq : ∀ a, a < D → ∀ b, b < D → dg a = dg b → dr a = dr b → a = b) (hd : d < D) (ha : a < G) (hb : b < G) (e1 : dg d = nI a) (e2 : dr d = nI b) : HR G D ho kind sinks mate dg dr (upd dm d 0) (upd r (37 + 7 * a + b) 0) := by
  obtain ⟨a1, a2, a3, a4, a5, a6, a7, a8, a9, a10, a11⟩ := h
  refine ⟨a1, a2, by rw [upd_n _ _ (by omega)]; exact a3, by rw [upd_n _ _ (by omega)]; exact a4, fun g hg => by rw [upd_n _ _ (by omega)]; exact a5 g hg, fun g hg => by rw [upd_n _ _ (by omega)]; exact a6 g hg, fun g hg => by rw [upd_n _ _ (by omega)]; exact a7 g hg, a8, a9, a10, fun x hx y hy hxy => ?_⟩
  by_cases q : x = a ∧ y = b
  · obtain ⟨rfl, rfl⟩ := q
    rw [upd_s]
    refine (sm_none (fun k hk => ?_)).symm
    by_cases z : dg k = nI x ∧ dr k = nI y
    · rw [if_pos z]
      have : k = d := unq k hk d hd (z.1.trans e1.symm) (z.2.trans e2.symm)
      rw [this, upd_s]
    · rw [if_neg z]
  · rw [upd_n _ _ (by omega), a11 x hx y hy hxy]
    refine sm_congr (fun k hk => ?_)
    by_cases z : dg k = nI x ∧ dr k = nI y
    · rw [if_pos z, if_pos z, upd_n]
      intro e
      subst e
      exact q ⟨nI_inj (by omega) (by omega) (z.1.symm.trans e1), nI_inj (by omega) (by omega) (z.2.symm.trans e2)⟩
    · rw [if_neg z, if_neg z]
theorem HR.apart {G D i j : Nat} {ho kind sinks mate dg dr dm r : Nat → Int32} (h : HR G D ho kind sinks mate dg dr dm r) (hi : i < G) (hj : j < G) : HR G D ho kind sinks (upd (upd mate i (-2)) j (-2)) dg dr dm (upd (upd r (9 + 4 * i + 3) 0) (9 + 4 * j + 3) 0) := by
  obtain ⟨a1, a2, a3, a4, a5, a6, a7, a8, a9, a10, a11⟩ := h
  refine ⟨a1, a2, by rw [upd_n _ _ (by omega), upd_n _ _ (by omega)]; exact a3, by rw [upd_n _ _ (by omega), upd_n _ _ (by omega)]; exact a4, fun g hg => by rw [upd_n _ _ (by omega), upd_n _ _ (by omega)]; exact a5 g hg, fun g hg => by rw [upd_n _ _ (by omega), upd_n _ _ (by omega)]; exact a6 g hg, fun g hg => ?_, a8, a9, a10, fun a ha b hb hab => by rw [upd_n _ _ (by omega), upd_n _ _ (by omega)]; exact a11 a ha b hb hab⟩
  by_cases e1 : g = j
  · subst e1; exact Or.inl ⟨upd_s _ _ _, upd_s _ _ _⟩
  · rw [upd_n _ _ e1, upd_n _ _ (show 9 + 4 * g + 3 ≠ 9 + 4 * j + 3 by omega)]
    by_cases e2 : g = i
    · subst e2; exact Or.inl ⟨upd_s _ _ _, upd_s _ _ _⟩
    · rw [upd_n _ _ e2, upd_n _ _ (show 9 + 4 * g + 3 ≠ 9 + 4 * i + 3 by omega)]; exact a7 g hg
/-! the biggest chain -/
theorem bit_lt {G g : Nat} (hG : G ≤ 7) (hg : g < G) : ∀ i, G ≤ i → i < 32 → bt ((1 : Int32) <<< (nI g &&& 31)) i = false := fun i h1 h2 => by
  rw [b_one g (by omega) i h2]; exact decide_eq_false (by omega)
theorem biggest_lock {n G D c : Nat} (hn : 100 ≤ n) {ho kind sinks mate dg dr dm r : Nat → Int32} (hH : HR G D ho kind sinks mate dg dr dm r) {o w la st : Nat → Int32} (hN : NR G o w la st) (hc : st 14 = nI c) (hcb : c ≤ 1000) (oo : Nat → Int32) (K1 : Int32 → (Nat → Int32) → (Nat → Int32) → (Nat → Int32) → (Nat → Int32) → Option (Int32 × (Nat → Int32) × (Nat → Int32) × (Nat → Int32) × (Nat → Int32) × (Nat → Int32))) (K2 : Int32 → (Nat → Int32) → (Nat → Int32) → Option (Int32 × (Nat → Int32) × (Nat → Int32))) :
    ∀ (j k f1 f2 p : Nat) (a : Int32) (t0 tw tl twl om tr : Nat → Int32), k + j = G → j < f1 → j < f2 → p ≤ 7 →
      ∃ a' o' w' la' wl' om' tr', fX9_biggest_L16 n oo ho kind mate dg dr dm o w la K1 f1 (nI p) a (nI k) t0 tw tl twl = K1 a' o' w' la' wl' ∧ fX10_biggest_L24 n r st K2 f2 a (nI p) (nI k) om tr = K2 a' om' tr' ∧ (∀ k, k ≠ 22 → om' k = om k) := by
  have hG : G ≤ 7 := hH.1
  intro j
  induction j with
  | zero =>
    intro k f1 f2 p a t0 tw tl twl om tr hk hf1 hf2 hp
    obtain ⟨u1, rfl⟩ : ∃ u, f1 = u + 1 := ⟨f1 - 1, by omega⟩
    obtain ⟨u2, rfl⟩ : ∃ u, f2 = u + 1 := ⟨f2 - 1, by omega⟩
    exact ⟨a, t0, tw, tl, twl, om, tr, by rw [fX9_biggest_L16, hH.2.1, if_pos (nI_le (by omega) (by omega))], by rw [fX10_biggest_L24, hH.2.2.1, if_pos (nI_le (by omega) (by omega))], fun _ _ => rfl⟩
  | succ j ih =>
    intro k f1 f2 p a t0 tw tl twl om tr hk hf1 hf2 hp
    obtain ⟨u1, rfl⟩ : ∃ u, f1 = u + 1 := ⟨f1 - 1, by omega⟩
    obtain ⟨u2, rfl⟩ : ∃ u, f2 = u + 1 := ⟨f2 - 1, by omega⟩
    rw [fX9_biggest_L16, hH.2.1, if_neg (nI_ge (by omega) (by omega)), fX10_biggest_L24, hH.2.2.1, if_neg (nI_ge (by omega) (by omega)), copy17 hn, ob1_ss, sI]
    by_cases hb : bt (o 1) k = true
    · obtain ⟨X, o1, w1, la1, wl1, om1, st1, e1, e2, -, -, g4, -, g7, -⟩ := send_pair (n := n) (by omega) hH (who := (1 : Int32) <<< (nI k &&& 31)) (bit_lt hG (by omega)) (hN.copy hG t0 tw tl tr) (by rw [cpy_lo (by omega)]; exact hc) (by omega) twl om
      obtain ⟨j1, p1, hj1, ej1, hp1, -, n1, n2⟩ := counts (n := n) (by omega) hG g7
      rw [has_y (by omega) hb, ob1_ss, if_neg i10, fX9_chainOf, become_eq, ob3_ss, e1, ob5_ss, ob5_ss, n1, ob1_ss, isIn_y (by omega) ((hN.2.2.2.2.1 k (by omega)).mp hb), ob1_ss, if_neg i10, e2, ob3_ss, n2, ob1_ss]
      by_cases hle : p1 ≤ p
      · rw [if_pos (nI_le hle (by omega)), if_neg (nI_nlt hle (by omega))]
        obtain ⟨a', o', w', la', wl', om', tr', t1, t2, t3⟩ := ih (k + 1) u1 u2 p a o1 w1 la1 wl1 om1 st1 (by omega) (by omega) (by omega) hp
        exact ⟨a', o', w', la', wl', om', tr', t1, t2, fun k hk => (t3 k hk).trans (g4 k hk)⟩
      · rw [if_neg (nI_ge (by omega) (by omega)), if_pos (nI_lt (by omega) (by omega))]
        obtain ⟨a', o', w', la', wl', om', tr', t1, t2, t3⟩ := ih (k + 1) u1 u2 p1 (nI k) o1 w1 la1 wl1 om1 st1 (by omega) (by omega) (by omega) hp1
        exact ⟨a', o', w', la', wl', om', tr', t1, t2, fun k hk => (t3 k hk).trans (g4 k hk)⟩
    · rw [has_n (by omega) hb, ob1_ss, if_pos i00, if_pos (nI_pos' (by omega)), isIn_n (by omega) (fun q => hb ((hN.2.2.2.2.1 k (by omega)).mpr q)), ob1_ss, if_pos i00, if_neg (nI_pos (by omega))]
      exact ih (k + 1) u1 u2 p a t0 tw tl twl om _ (by omega) (by omega) (by omega) hp
/-! who holds it; the best cup: numbers of hours as both hold them -/
theorem encR60 {v : Option Nat} (hv : ∀ e, v = some e → e ≤ 60) : (∃ e, e ≤ 60 ∧ encR 60 v = nI e ∧ encE v = nI e) ∨ (encR 60 v = 61 ∧ encE v = -2) := by
  cases v with
  | none => exact Or.inr ⟨rfl, rfl⟩
  | some e =>
    have := hv e rfl
    exact Or.inl ⟨e, this, by rw [encR, if_pos this], rfl⟩
theorem holder_lock {n G D c : Nat} (hn : 100 ≤ n) {ho kind sinks mate dg dr dm r : Nat → Int32} (hH : HR G D ho kind sinks mate dg dr dm r) {po : Nat → Int32} (hpo : po 0 = 0) {o w la st : Nat → Int32} (hN : NR G o w la st) (hS : SET G D o w kind dg dr dm) (hc : st 14 = nI c) (hcb : c ≤ 1000) (oo : Nat → Int32) (K1 : Int32 → (Nat → Int32) → (Nat → Int32) → (Nat → Int32) → (Nat → Int32) → (Nat → Int32) → Option (Int32 × (Nat → Int32) × (Nat → Int32) × (Nat → Int32) × (Nat → Int32) × (Nat → Int32) × (Nat → Int32))) (K2 : Int32 → (Nat → Int32) → (Nat → Int32) → Option (Int32 × (Nat → Int32) × (Nat → Int32))) :
    ∀ (j k f1 f2 : Nat) (a s s' : Int32) (t0 tw tl twl om tr : Nat → Int32), k + j = G → j < f1 → j < f2 → ((∃ e, e ≤ 60 ∧ s = nI e ∧ s' = nI e) ∨ (s = 61 ∧ s' = 1000000)) →
      ∃ a' o' w' la' wl' om' tr', fX9_holder_L19 n oo ho kind sinks mate dg dr dm o w la K1 f1 s a (nI k) t0 tw tl twl po = K1 a' o' w' la' wl' po ∧ fX10_holder_L40 n r st K2 f2 a s' (nI k) om tr = K2 a' om' tr' ∧ (∀ k, k ≠ 22 → k ≠ 24 → om' k = om k) := by
  have hG : G ≤ 7 := hH.1
  have l60 : (60 : Int32) = nI 60 := rfl
  have l61 : (61 : Int32) = nI 61 := rfl
  have lM : (1000000 : Int32) = nI 1000000 := rfl
  intro j
  induction j with
  | zero =>
    intro k f1 f2 a s s' t0 tw tl twl om tr hk hf1 hf2 hs
    obtain ⟨u1, rfl⟩ : ∃ u, f1 = u + 1 := ⟨f1 - 1, by omega⟩
    obtain ⟨u2, rfl⟩ : ∃ u, f2 = u + 1 := ⟨f2 - 1, by omega⟩
    exact ⟨a, t0, tw, tl, twl, om, tr, by rw [fX9_holder_L19, hH.2.1, if_pos (nI_le (by omega) (by omega))], by rw [fX10_holder_L40, hH.2.2.1, if_pos (nI_le (by omega) (by omega))], fun _ _ _ => rfl⟩
  | succ j ih =>
    intro k f1 f2 a s s' t0 tw tl twl om tr hk hf1 hf2 hs
    obtain ⟨u1, rfl⟩ : ∃ u, f1 = u + 1 := ⟨f1 - 1, by omega⟩
    obtain ⟨u2, rfl⟩ : ∃ u, f2 = u + 1 := ⟨f2 - 1, by omega⟩
    have hs61 : s ≤ 61 := by
      rcases hs with ⟨e, he, e1, -⟩ | ⟨e1, -⟩
      · rw [e1, l61]; exact nI_le (by omega) (by omega)
      · rw [e1]; exact Int32.le_refl _
    rw [fX9_holder_L19, hH.2.1, if_neg (nI_ge (by omega) (by omega)), fX10_holder_L40, hH.2.2.1, if_neg (nI_ge (by omega) (by omega)), sI]
    by_cases hb : bt (o 1) k = true
    · obtain ⟨v, hv, cls, mdl⟩ := less_spec hn hH hpo hN hS hc (by omega) (who := (1 : Int32) <<< (nI k &&& 31)) (bit_lt hG (by omega))
      obtain ⟨o1, w1, la1, wl1, e1⟩ := cls 60 (by omega) oo t0 tw tl twl
      obtain ⟨om1, tr1, e2, e3⟩ := mdl om tr
      rw [has_y (by omega) hb, ob1_ss, if_neg i10, l60, e1, ob6_ss, isIn_y (by omega) ((hN.2.2.2.2.1 k (by omega)).mp hb), ob1_ss, if_neg i10, e2, ob3_ss]
      have stay := ih (k + 1) u1 u2 a s s' o1 w1 la1 wl1 om1 tr1 (by omega) (by omega) (by omega) hs
      obtain ⟨a', o', w', la', wl', om', tr', t1, t2, t3⟩ := stay
      rcases encR60 hv with ⟨e, he, r1, r2⟩ | ⟨r1, r2⟩
      · rw [r1, r2, if_neg (nI_pos (by omega))]
        have go := ih (k + 1) u1 u2 (nI k) (nI e) (nI e) o1 w1 la1 wl1 om1 tr1 (by omega) (by omega) (by omega) (Or.inl ⟨e, he, rfl, rfl⟩)
        obtain ⟨a2, o2, w2, la2, wl2, om2, tr2, q1, q2, q3⟩ := go
        rcases hs with ⟨e0, he0, z1, z2⟩ | ⟨z1, z2⟩
        · rw [z1, z2]
          rw [z1] at t1
          rw [z2] at t2
          by_cases hle : e0 ≤ e
          · rw [if_pos (nI_le hle (by omega)), if_neg (nI_nlt hle (by omega))]
            exact ⟨a', o', w', la', wl', om', tr', t1, t2, fun k k1 k2 => (t3 k k1 k2).trans (e3 k k1 k2)⟩
          · rw [if_neg (nI_ge (by omega) (by omega)), if_pos (nI_lt (by omega) (by omega))]
            exact ⟨a2, o2, w2, la2, wl2, om2, tr2, q1, q2, fun k k1 k2 => (q3 k k1 k2).trans (e3 k k1 k2)⟩
        · rw [z1, z2, l61, lM, if_neg (nI_ge (by omega) (by omega)), if_pos (nI_lt (by omega) (by omega))]
          exact ⟨a2, o2, w2, la2, wl2, om2, tr2, q1, q2, fun k k1 k2 => (q3 k k1 k2).trans (e3 k k1 k2)⟩
      · rw [r1, r2, if_pos hs61, if_pos (show (-2 : Int32) < 0 by decide)]
        exact ⟨a', o', w', la', wl', om', tr', t1, t2, fun k k1 k2 => (t3 k k1 k2).trans (e3 k k1 k2)⟩
    · rw [has_n (by omega) hb, ob1_ss, if_pos i00, if_pos hs61, isIn_n (by omega) (fun q => hb ((hN.2.2.2.2.1 k (by omega)).mpr q)), ob1_ss, if_pos i00]
      exact ih (k + 1) u1 u2 a s s' t0 tw tl twl om tr (by omega) (by omega) (by omega) hs
theorem bestCup_lock {n G D c : Nat} (hn : 100 ≤ n) {ho kind sinks mate dg dr dm r : Nat → Int32} (hH : HR G D ho kind sinks mate dg dr dm r) (hwk : ho 1 = r 1) {po : Nat → Int32} (hpo : po 0 = 0) {o w la st : Nat → Int32} (hN : NR G o w la st) (hc : st 14 = nI c) (hcb : c ≤ 1000) (oo : Nat → Int32) (K1 : Int32 → (Nat → Int32) → (Nat → Int32) → (Nat → Int32) → (Nat → Int32) → (Nat → Int32) → Option (Int32 × (Nat → Int32) × (Nat → Int32) × (Nat → Int32) × (Nat → Int32) × (Nat → Int32) × (Nat → Int32))) (K2 : Int32 → (Nat → Int32) → (Nat → Int32) → Option (Int32 × (Nat → Int32) × (Nat → Int32))) :
    ∀ (j k f1 f2 : Nat) (a s s' : Int32) (t0 tw tl twl om tr : Nat → Int32), k + j = G → j < f1 → j < f2 → ((s = -1 ∧ s' = -1) ∨ (∃ e, e ≤ 60 ∧ s = nI e ∧ s' = nI e) ∨ (s = 61 ∧ s' = 1000000)) →
      ∃ a' o' w' la' wl' om' tr', fX9_bestCup_L16 n oo ho kind sinks mate dg dr dm o w la K1 f1 s a (nI k) t0 tw tl twl po = K1 a' o' w' la' wl' po ∧ fX10_bestCup_L24 n r st K2 f2 a s' (nI k) om tr = K2 a' om' tr' ∧ (∀ k, k ≠ 22 → k ≠ 24 → om' k = om k) := by
  have hG : G ≤ 7 := hH.1
  have l61 : (61 : Int32) = nI 61 := rfl
  have lM : (1000000 : Int32) = nI 1000000 := rfl
  have neg : ∀ e, e ≤ 61 → (-1 : Int32) < nI e := by decide +kernel
  have neg2 : ∀ e, e ≤ 61 → (-1 : Int32) ≤ nI e := by decide +kernel
  intro j
  induction j with
  | zero =>
    intro k f1 f2 a s s' t0 tw tl twl om tr hk hf1 hf2 hs
    obtain ⟨u1, rfl⟩ : ∃ u, f1 = u + 1 := ⟨f1 - 1, by omega⟩
    obtain ⟨u2, rfl⟩ : ∃ u, f2 = u + 1 := ⟨f2 - 1, by omega⟩
    exact ⟨a, t0, tw, tl, twl, om, tr, by rw [fX9_bestCup_L16, hH.2.1, if_pos (nI_le (by omega) (by omega))], by rw [fX10_bestCup_L24, hH.2.2.1, if_pos (nI_le (by omega) (by omega))], fun _ _ _ => rfl⟩
  | succ j ih =>
    intro k f1 f2 a s s' t0 tw tl twl om tr hk hf1 hf2 hs
    obtain ⟨u1, rfl⟩ : ∃ u, f1 = u + 1 := ⟨f1 - 1, by omega⟩
    obtain ⟨u2, rfl⟩ : ∃ u, f2 = u + 1 := ⟨f2 - 1, by omega⟩
    rw [fX9_bestCup_L16, hH.2.1, if_neg (nI_ge (by omega) (by omega)), fX10_bestCup_L24, hH.2.2.1, if_neg (nI_ge (by omega) (by omega)), sI]
    by_cases hb : bt (o 1) k = true
    · obtain ⟨v, hv, cls, mdl⟩ := woken_spec hn hH hwk hpo hN hc (by omega) (show k < G by omega)
      obtain ⟨o1, w1, la1, wl1, e1⟩ := cls oo t0 tw tl twl
      obtain ⟨om1, tr1, e2, e3⟩ := mdl om tr
      obtain ⟨om2, tr2, e4, e5⟩ := mdl om1 tr1
      rw [has_y (by omega) hb, ob1_ss, if_neg i10, e1, ob6_ss, isIn_y (by omega) ((hN.2.2.2.2.1 k (by omega)).mp hb), ob1_ss, if_neg i10, e2, ob3_ss, e4, ob3_ss]
      rcases encR60 hv with ⟨e, he, r1, r2⟩ | ⟨r1, r2⟩
      · rw [r1, r2, if_pos (nI_pos' (by omega))]
        have stay := ih (k + 1) u1 u2 a s s' o1 w1 la1 wl1 om2 tr2 (by omega) (by omega) (by omega) hs
        have go := ih (k + 1) u1 u2 (nI k) (nI e) (nI e) o1 w1 la1 wl1 om2 tr2 (by omega) (by omega) (by omega) (Or.inr (Or.inl ⟨e, he, rfl, rfl⟩))
        obtain ⟨a', o', w', la', wl', om', tr', t1, t2, t3⟩ := stay
        obtain ⟨a2, o2, w2, la2, wl2, om2', tr2', q1, q2, q3⟩ := go
        have fs : ∀ k, k ≠ 22 → k ≠ 24 → om' k = om k := fun k k1 k2 => (t3 k k1 k2).trans ((e5 k k1 k2).trans (e3 k k1 k2))
        have fg : ∀ k, k ≠ 22 → k ≠ 24 → om2' k = om k := fun k k1 k2 => (q3 k k1 k2).trans ((e5 k k1 k2).trans (e3 k k1 k2))
        rcases hs with ⟨z1, z2⟩ | ⟨e0, he0, z1, z2⟩ | ⟨z1, z2⟩
        · rw [z1, z2, if_neg (Int32.not_le.mpr (neg e (by omega))), if_pos (neg e (by omega))]
          exact ⟨a2, o2, w2, la2, wl2, om2', tr2', q1, q2, fg⟩
        · rw [z1, z2]
          rw [z1] at t1
          rw [z2] at t2
          by_cases hle : e ≤ e0
          · rw [if_pos (nI_le hle (by omega)), if_neg (nI_nlt hle (by omega))]
            exact ⟨a', o', w', la', wl', om', tr', t1, t2, fs⟩
          · rw [if_neg (nI_ge (by omega) (by omega)), if_pos (nI_lt (by omega) (by omega))]
            exact ⟨a2, o2, w2, la2, wl2, om2', tr2', q1, q2, fg⟩
        · rw [z1, z2, l61, lM, if_pos (nI_le (by omega) (by omega)), if_neg (nI_nlt (by omega) (by omega))]
          rw [z1] at t1
          rw [z2] at t2
          exact ⟨a', o', w', la', wl', om', tr', t1, t2, fs⟩
      · rw [r1, r2, if_neg (show ¬ (0 : Int32) ≤ -2 by decide)]
        have stay := ih (k + 1) u1 u2 a s s' o1 w1 la1 wl1 om1 tr1 (by omega) (by omega) (by omega) hs
        have go := ih (k + 1) u1 u2 (nI k) 61 1000000 o1 w1 la1 wl1 om1 tr1 (by omega) (by omega) (by omega) (Or.inr (Or.inr ⟨rfl, rfl⟩))
        obtain ⟨a', o', w', la', wl', om', tr', t1, t2, t3⟩ := stay
        obtain ⟨a2, o2, w2, la2, wl2, om2', tr2', q1, q2, q3⟩ := go
        have fs : ∀ k, k ≠ 22 → k ≠ 24 → om' k = om k := fun k k1 k2 => (t3 k k1 k2).trans (e3 k k1 k2)
        have fg : ∀ k, k ≠ 22 → k ≠ 24 → om2' k = om k := fun k k1 k2 => (q3 k k1 k2).trans (e3 k k1 k2)
        rcases hs with ⟨z1, z2⟩ | ⟨e0, he0, z1, z2⟩ | ⟨z1, z2⟩
        · rw [z1, z2, if_neg (show ¬ (61 : Int32) ≤ -1 by decide), if_pos (show (-1 : Int32) < 1000000 by decide)]
          exact ⟨a2, o2, w2, la2, wl2, om2', tr2', q1, q2, fg⟩
        · rw [z1, z2, if_neg (show ¬ (61 : Int32) ≤ nI e0 by rw [l61]; exact nI_ge (by omega) (by omega)), if_pos (show nI e0 < (1000000 : Int32) by rw [lM]; exact nI_lt (by omega) (by omega))]
          exact ⟨a2, o2, w2, la2, wl2, om2', tr2', q1, q2, fg⟩
        · rw [z1, z2, if_pos (Int32.le_refl _), if_neg (show ¬ (1000000 : Int32) < 1000000 by decide)]
          rw [z1] at t1
          rw [z2] at t2
          exact ⟨a', o', w', la', wl', om', tr', t1, t2, fs⟩
    · have hm1 : (-1 : Int32) ≤ s := by
        rcases hs with ⟨z1, -⟩ | ⟨e0, he0, z1, -⟩ | ⟨z1, -⟩
        · rw [z1]; exact Int32.le_refl _
        · rw [z1]; exact neg2 e0 (by omega)
        · rw [z1]; decide
      rw [has_n (by omega) hb, ob1_ss, if_pos i00, if_pos hm1, isIn_n (by omega) (fun q => hb ((hN.2.2.2.2.1 k (by omega)).mpr q)), ob1_ss, if_pos i00]
      exact ih (k + 1) u1 u2 a s s' t0 tw tl twl om tr (by omega) (by omega) (by omega) hs
/-! how much they must tire -/
theorem tireFor_lock {n G D c H : Nat} (hn : 300 ≤ n) {ho kind sinks mate dg dr dm r : Nat → Int32} (hH : HR G D ho kind sinks mate dg dr dm r) {po : Nat → Int32} (hpo : po 0 = 0) (hH6 : H ≤ 60) {o w la st : Nat → Int32} (hN : NR G o w la st) (hc : st 14 = nI c) (hcb : c ≤ 1000) (oo : Nat → Int32) :
    ∀ (j k f1 f2 : Nat) (t0 tw tl twl om tr : Nat → Int32), k + j = 201 → j < f1 → j < f2 →
      ∃ R o' w' la' wl' om' tr', fX9_tireFor_L22 n (nI H) oo ho kind sinks mate dg dr dm o w la (fun o w l v p => some ((-2 : Int32), oo, o, w, l, v, p)) f1 (nI k) t0 tw tl twl po = some (R, oo, o', w', la', wl', po) ∧ fX10_tireFor_L35 n (nI H) r st (fun o a => some ((-2 : Int32), o, a)) f2 (nI k) om tr = some (R, om', tr') ∧ (∀ k, k ≠ 22 → k ≠ 24 → om' k = om k) := by
  have hG : G ≤ 7 := hH.1
  have l200 : (200 : Int32) = nI 200 := rfl
  have l61 : (61 : Int32) = nI 61 := rfl
  intro j
  induction j with
  | zero =>
    intro k f1 f2 t0 tw tl twl om tr hk hf1 hf2
    obtain ⟨u1, rfl⟩ : ∃ u, f1 = u + 1 := ⟨f1 - 1, by omega⟩
    obtain ⟨u2, rfl⟩ : ∃ u, f2 = u + 1 := ⟨f2 - 1, by omega⟩
    exact ⟨-2, t0, tw, tl, twl, om, tr, by rw [fX9_tireFor_L22, l200, if_pos (nI_lt (by omega) (by omega))], by rw [fX10_tireFor_L35, l200, if_pos (nI_lt (by omega) (by omega))], fun _ _ _ => rfl⟩
  | succ j ih =>
    intro k f1 f2 t0 tw tl twl om tr hk hf1 hf2
    obtain ⟨u1, rfl⟩ : ∃ u, f1 = u + 1 := ⟨f1 - 1, by omega⟩
    obtain ⟨u2, rfl⟩ : ∃ u, f2 = u + 1 := ⟨f2 - 1, by omega⟩
    have hNc := hN.copy hG t0 tw tl tr
    obtain ⟨w1, hw1, e1⟩ := tireS (n := n) (o := upd (upd (upd (upd t0 0 (o 0)) 1 (o 1)) 2 (o 2)) 3 (o 3)) (by omega) hG hH.2.1 (nI k) (va_cpy w tw 0 0 7)
    rw [fX9_tireFor_L22, l200, if_neg (nI_nlt (by omega) (by omega)), become_eq, ob3_ss, e1, ob1_ss, fX10_tireFor_L35, l200, if_neg (nI_nlt (by omega) (by omega)), copy17 (by omega), ob1_ss, sI]
    have hF : ∀ f x s, fX10_tireFor_L59 n (nI H) (nI k) om r (fun a => ob3 (fX10_endsOn n 0 om r a) (fun u_17 u_18 u_19 => ob1 (fX10_in n u_17 0 (nI H)) (fun u_21 => if u_21 = 0 then fX10_tireFor_L35 n (nI H) r st (fun o a => some ((-2 : Int32), o, a)) u2 (nI (k + 1)) u_18 u_19 else some (nI k, u_18, u_19)))) (f + 1) x s = if nI G ≤ x then ob3 (fX10_endsOn n 0 om r s) (fun u_17 u_18 u_19 => ob1 (fX10_in n u_17 0 (nI H)) (fun u_21 => if u_21 = 0 then fX10_tireFor_L35 n (nI H) r st (fun o a => some ((-2 : Int32), o, a)) u2 (nI (k + 1)) u_18 u_19 else some (nI k, u_18, u_19))) else if x < 0 ∨ 17 ≤ x.toNatClampNeg then none else ob1 (fX10_isIn n x s) (fun u => if u = 0 then if x < 0 ∨ 17 ≤ x.toNatClampNeg then none else fX10_tireFor_L59 n (nI H) (nI k) om r (fun a => ob3 (fX10_endsOn n 0 om r a) (fun u_17 u_18 u_19 => ob1 (fX10_in n u_17 0 (nI H)) (fun u_21 => if u_21 = 0 then fX10_tireFor_L35 n (nI H) r st (fun o a => some ((-2 : Int32), o, a)) u2 (nI (k + 1)) u_18 u_19 else some (nI k, u_18, u_19)))) f (x + 1) (upd s x.toNatClampNeg (s x.toNatClampNeg - 0)) else if x < 0 ∨ 17 ≤ x.toNatClampNeg then none else fX10_tireFor_L59 n (nI H) (nI k) om r (fun a => ob3 (fX10_endsOn n 0 om r a) (fun u_17 u_18 u_19 => ob1 (fX10_in n u_17 0 (nI H)) (fun u_21 => if u_21 = 0 then fX10_tireFor_L35 n (nI H) r st (fun o a => some ((-2 : Int32), o, a)) u2 (nI (k + 1)) u_18 u_19 else some (nI k, u_18, u_19)))) f (x + 1) (upd s x.toNatClampNeg (s x.toNatClampNeg - nI k))) := fun f x s => by rw [fX10_tireFor_L59, hH.2.2.1]
    obtain ⟨s1, hs1, e2⟩ := tire_m (n := n) hG (nI k) (va_cpy st tr 0 0 17) hF G 0 n (va_cpy st tr 0 0 17) (by omega) (by omega) (fun i => by rw [if_neg (fun q => absurd q.1 (Nat.not_lt_zero i))])
    have hN1 := hNc.tire hG (nI k) hw1 hs1
    obtain ⟨E, om1, st1, f1, f2, f3, f4⟩ := run_pair (n := n) (c := c) (by omega) hH hpo hN1 (by rw [hs1 14, if_neg (fun q => absurd q.1 (by omega)), cpy_lo (by omega)]; exact hc) (by omega) twl om
    obtain ⟨R, o2, w2, la2, wl2, q1, q2, q3⟩ := f4 H hH6
    rw [q1, ob6_ss]
    have e2' := e2
    rw [f1, ob3_ss] at e2'
    have nx := ih (k + 1) u1 u2 o2 w2 la2 wl2 om1 st1 (by omega) (by omega) (by omega)
    obtain ⟨R', o', w', la', wl', om', tr', t1, t2, t3⟩ := nx
    have cs : (R = 61 ∧ fX10_in n E 0 (nI H) = some 0) ∨ (∃ e, e ≤ H ∧ R = nI e ∧ fX10_in n E 0 (nI H) = some 1) := by
      rcases f3 with z | ⟨e, he, z⟩
      · exact Or.inl ⟨q3 (Or.inl z), by rw [z, fX10_in, if_pos (by decide)]⟩
      · by_cases hle : e ≤ H
        · exact Or.inr ⟨e, hle, (q2 e hle z).1, by rw [z, fX10_in, if_neg (nI_pos (by omega)), if_neg (nI_nlt hle (by omega))]⟩
        · exact Or.inl ⟨q3 (Or.inr ⟨e, by omega, he, z⟩), by rw [z, fX10_in, if_neg (nI_pos (by omega)), if_pos (nI_lt (by omega) (by omega))]⟩
    rcases cs with ⟨z1, z2⟩ | ⟨e, hle, z1, z2⟩
    · refine ⟨R', o', w', la', wl', om', tr', ?_, ?_, fun k k1 k2 => (t3 k k1 k2).trans (f2 k k1 k2)⟩
      · rw [z1, l61, if_pos (nI_lt (by omega) (by omega))]; exact t1
      · refine (show fX10_tireFor_L59 n (nI H) (nI k) om r _ n (nI 0) _ = _ from e2').trans ?_
        rw [z2, ob1_ss, if_pos i00]; exact t2
    · refine ⟨nI k, o2, w2, la2, wl2, om1, st1, ?_, ?_, f2⟩
      · rw [z1, if_neg (nI_nlt hle (by omega))]
      · refine (show fX10_tireFor_L59 n (nI H) (nI k) om r _ n (nI 0) _ = _ from e2').trans ?_
        rw [z2, ob1_ss, if_neg i10]
