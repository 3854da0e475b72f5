/-! INV behind an act; the tape -/
theorem ml_up {L : List Nat} {X X0 : Nat → Nat → Int32} {j : Nat} {v : Nat → Int32} (hj : j ∉ L) (h : ∀ k ∈ L, X k = X0 k) : ∀ k ∈ L, va_up X j v k = X0 k := fun k hk => by
  rw [va_up, if_neg (show ¬ k = j from fun e => hj (by rw [← e]; exact hk))]; exact h k hk
theorem ob7_ss {A B C D E F H Z : Type} (a : A) (b : B) (c : C) (d : D) (e : E) (f : F) (g : H) (k : A → B → C → D → E → F → H → Option Z) : ob7 (some (a, b, c, d, e, f, g)) k = k a b c d e f g := rfl
theorem isNotS {n : Nat} {t : Int32} {o : Nat → Int32} : fX10_isNot n t o = some (0, upd o 11 t) := rfl
theorem INV.act {n G D T N S : Nat} {X X' : Nat → Nat → Int32} {Y Y' : Nat → Int64} {c c' : Int64} {P P' : Nat → Nat → Nat → Int32} {M M' : Nat → Nat → Int32} (h : INV n X Y c P M) (hB : NOW G D T N S X M) (hX : ∀ k ∈ hcore, X' k = X k) (x3 : X' 0 3 = X 0 3) (x11 : X' 0 11 = X 0 11) (x4 : X' 0 4 = 0) (h45 : X' 45 0 = X 45 0) (h46 : X' 46 0 = X 46 0)
    (hM : M' 1 = M 1 ∧ M' 15 = M 15 ∧ M' 19 = M 19) (fr : ∀ k, k ≤ 21 → k ≠ 20 → M' 0 k = upd (upd (M 0) 0 0) 11 0 k)
    (hL : LED G D T (X 6) (X 10) (X 11) (X 12) (X' 37) (X' 38) (X' 39) (M' 17)) (hP : PAST G D T (X 6) (X 10) (X 11) (X 12) (X' 47) P' (M' 18) (M' 0 20)) (hPi : P' 4 = P 4 ∧ P' 5 = P 5 ∧ P' 6 = P 6) (h48 : X' 48 0 = 0) (h55 : X' 55 0 = 0) (h63 : X' 63 = X 63 ∧ X' 64 = X 64) : INV n X' Y' c' P' M' := by
  obtain ⟨z1, ⟨v, v1, v2, v3, v4⟩, z3⟩ := hB.more h
  refine h.anew hB hX x3 x4 h45 h46 ⟨hM.1, hM.2.1⟩ (fr 11 (by decide) (by decide)) ⟨fr 2 (by decide) (by decide), fr 9 (by decide) (by decide), fr 14 (by decide) (by decide)⟩ hL hP ⟨v, v1, x11.trans v2, (fr 21 (by decide) (by decide)).trans v3, ?_⟩ ?_
  · rw [hPi.1, hPi.2.1, hPi.2.2, hM.2.2]; exact v4
  · rw [h63.1, h63.2]; exact z3.lost h48 h55
theorem in_y {n v k : Nat} (hv : v ≤ 100) (hk : k < v) : fX10_in n (nI k) 0 (nI v - 1) = some 1 := by
  obtain ⟨v', rfl⟩ : ∃ v', v = v' + 1 := ⟨v - 1, by omega⟩
  rw [nI_pred, fX10_in, if_neg (nI_pos (by omega)), if_neg (nI_nlt (by omega) (by omega))]
theorem in_n {n v : Nat} {x : Int32} (hv : v ≤ 1000) (h : x < 0 ∨ (¬ x < 0 ∧ nI v ≤ x)) : fX10_in n x 0 (nI v - 1) = some 0 := by
  rw [fX10_in]
  rcases h with z | ⟨z, z2⟩
  · rw [if_pos z]
  · rw [if_neg z, if_pos]
    rw [Int32.lt_iff_toInt_lt]
    rw [Int32.le_iff_toInt_le, nI_toInt (by omega)] at z2
    have e : (nI v - 1).toInt = (v : Int) - 1 := sub_small (x := nI v) (q := 1) (by omega) (by rw [nI_toInt (by omega)]; omega) |>.trans (by rw [nI_toInt (by omega)]; rfl)
    omega
theorem ixs (x : Int32) {v : Nat} (hv : v < 1000) : (∃ k, k < v ∧ x = nI k) ∨ (x < 0 ∨ (¬ x < 0 ∧ nI v ≤ x)) := by
  rcases pk_ix x (n := v) (by omega) with z | z | ⟨k, hk, e⟩
  · exact Or.inr (Or.inl z)
  · by_cases q : x < 0
    · exact Or.inr (Or.inl q)
    · exact Or.inr (Or.inr ⟨q, z⟩)
  · exact Or.inl ⟨k, hk, e⟩
/-! bytes -/
def byt (x : Int32) (i : Nat) : Int32 := (x >>> (nI (24 - 8 * i) &&& 31)) &&& 255
theorem sh_eq (x : Int32) {s : Nat} (hs : s ≤ 24) : (((x.toUInt32 >>> ((nI s).toUInt32 &&& Int32.toUInt32 31)).toInt32) &&& 255) = (x >>> (nI s &&& 31)) &&& 255 := by
  refine b_ext (fun i hi => ?_)
  rw [b_and, b_and, b_ushr s (by omega), b_sshr s (by omega) x hi, b_255]
  by_cases h : i < 8
  · rw [if_pos (by omega)]
  · simp [h]
theorem put1 {n T s f : Nat} {x : Int32} (hT : T < 800) (hs : s ≤ 24) {o g : Nat → Int32} {c : Int64} (ho : o 1 = nI T) (K : (Nat → Int32) → Int64 → (Nat → Int32) → Option ((Nat → Int32) × Int64 × (Nat → Int32))) :
    fX5_putNumber_L3 n x K (f + 1) (nI s) o c g = fX5_putNumber_L3 n x K f (nI s + -8) (upd o 1 (nI (T + 1))) c (upd g T ((x >>> (nI s &&& 31)) &&& 255)) := by
  rw [fX5_putNumber_L3, if_neg (nI_pos (by omega)), ho, show (800 : Int32) = nI 800 from rfl, if_neg (nI_ge (by omega) (by omega)), if_neg (ckI (by omega) (by omega)), clI (by omega), sI, sh_eq x hs]
theorem putS {n T : Nat} (hn : 10 ≤ n) (x : Int32) (hT : T + 4 ≤ 800) {o g : Nat → Int32} {c : Int64} (ho : o 1 = nI T) : ∃ o' g', fX5_putNumber n x o c g = some (o', c, g') ∧ o' 1 = nI (T + 4) ∧ (∀ k, k ≠ 1 → o' k = o k) ∧ ∀ i, g' i = if T ≤ i ∧ i < T + 4 then byt x (i - T) else g i := by
  obtain ⟨m, rfl⟩ : ∃ m, n = m + 5 := ⟨n - 5, by omega⟩
  have s1 : (nI 24 + -8 : Int32) = nI 16 := by decide
  have s2 : (nI 16 + -8 : Int32) = nI 8 := by decide
  have s3 : (nI 8 + -8 : Int32) = nI 0 := by decide
  refine ⟨upd (upd (upd (upd o 1 (nI (T + 1))) 1 (nI (T + 2))) 1 (nI (T + 3))) 1 (nI (T + 4)), upd (upd (upd (upd g T (byt x 0)) (T + 1) (byt x 1)) (T + 2) (byt x 2)) (T + 3) (byt x 3), ?_, upd_s _ _ _, fun k hk => by rw [upd_n _ _ hk, upd_n _ _ hk, upd_n _ _ hk, upd_n _ _ hk], fun i => ?_⟩
  · rw [fX5_putNumber]
    show fX5_putNumber_L3 (m + 5) x _ (m + 4 + 1) (nI 24) o c g = _
    rw [put1 (T := T) (by omega) (by omega) ho, s1]
    rw [put1 (T := T + 1) (f := m + 3) (by omega) (by omega) (upd_s _ _ _), s2]
    rw [put1 (T := T + 1 + 1) (f := m + 2) (by omega) (by omega) (upd_s _ _ _), s3]
    rw [put1 (T := T + 1 + 1 + 1) (f := m + 1) (by omega) (by omega) (upd_s _ _ _), fX5_putNumber_L3, if_pos (by decide)]
    rfl
  · by_cases h3 : i = T + 3
    · subst h3; rw [upd_s, if_pos ⟨by omega, by omega⟩, show T + 3 - T = 3 by omega]
    · rw [upd_n _ _ h3]
      by_cases h2 : i = T + 2
      · subst h2; rw [upd_s, if_pos ⟨by omega, by omega⟩, show T + 2 - T = 2 by omega]
      · rw [upd_n _ _ h2]
        by_cases h1 : i = T + 1
        · subst h1; rw [upd_s, if_pos ⟨by omega, by omega⟩, show T + 1 - T = 1 by omega]
        · rw [upd_n _ _ h1]
          by_cases h0 : i = T
          · subst h0; rw [upd_s, if_pos ⟨by omega, by omega⟩, show i - i = 0 by omega]
          · rw [upd_n _ _ h0, if_neg (fun q => by omega)]
def sel5 (x1 x2 x3 x4 x5 : Int32) (k : Nat) : Int32 := if 4 ≤ k then if 8 ≤ k then if 12 ≤ k then if 16 ≤ k then x5 else x4 else x3 else x2 else x1
theorem feed1 {n T f : Nat} (x1 x2 x3 x4 x5 : Int32) (hT : T < 800) {k : Nat} (hk : k < 20) {o g : Nat → Int32} (ho : o 2 = nI T) (K : (Nat → Int32) → (Nat → Int32) → Option (Int32 × (Nat → Int32) × (Nat → Int32))) :
    fX10_feed_L23 n x1 x2 x3 x4 x5 K (f + 1) (nI k) o g = fX10_feed_L23 n x1 x2 x3 x4 x5 K f (nI (k + 1)) (upd o 2 (nI (T + 1))) (upd g T (byt (sel5 x1 x2 x3 x4 x5 k) (k % 4))) := by
  have m1 : ∀ k, k < 20 → (24 : Int32) - (8 * (nI k - nI k / 4 * 4)) = nI (24 - 8 * (k % 4)) := by decide +kernel
  have l4 : (4 : Int32) = nI 4 := rfl
  have l8 : (8 : Int32) = nI 8 := rfl
  have l12 : (12 : Int32) = nI 12 := rfl
  have l16 : (16 : Int32) = nI 16 := rfl
  have l20 : (20 : Int32) = nI 20 := rfl
  rw [fX10_feed_L23, if_neg (show ¬ (20 : Int32) ≤ nI k from nI_ge (b := 20) (by omega) (by omega)), m1 k hk, ho, clI (by omega), sI, sI]
  dsimp only [jn]
  have hck : ¬ (nI T < 0 ∨ 800 ≤ T) := ckK (by omega) (by omega)
  rw [byt, sel5]
  by_cases h4 : 4 ≤ k
  · rw [if_pos h4, if_pos (show (4 : Int32) ≤ nI k from nI_le (a := 4) h4 (by omega))]
    by_cases h8 : 8 ≤ k
    · rw [if_pos h8, if_pos (show (8 : Int32) ≤ nI k from nI_le (a := 8) h8 (by omega))]
      by_cases h12 : 12 ≤ k
      · rw [if_pos h12, if_pos (show (12 : Int32) ≤ nI k from nI_le (a := 12) h12 (by omega))]
        by_cases h16 : 16 ≤ k
        · rw [if_pos h16, if_pos (show (16 : Int32) ≤ nI k from nI_le (a := 16) h16 (by omega)), if_neg hck]
        · rw [if_neg h16, if_neg (show ¬ (16 : Int32) ≤ nI k from nI_ge (b := 16) (by omega) (by omega)), if_neg hck]
      · rw [if_neg h12, if_neg (show ¬ (12 : Int32) ≤ nI k from nI_ge (b := 12) (by omega) (by omega)), if_neg hck]
    · rw [if_neg h8, if_neg (show ¬ (8 : Int32) ≤ nI k from nI_ge (b := 8) (by omega) (by omega)), if_neg hck]
  · rw [if_neg h4, if_neg (show ¬ (4 : Int32) ≤ nI k from nI_ge (b := 4) (by omega) (by omega)), if_neg hck]
theorem feed_loop {n T : Nat} (x1 x2 x3 x4 x5 : Int32) (hT : T + 20 ≤ 800) {o0 g0 : Nat → Int32} (K : (Nat → Int32) → (Nat → Int32) → Option (Int32 × (Nat → Int32) × (Nat → Int32))) :
    ∀ (j k f : Nat) (o g : Nat → Int32), k + j = 20 → j < f → o 2 = nI (T + k) → (∀ i, i ≠ 2 → o i = o0 i) → (∀ i, g i = if T ≤ i ∧ i < T + k then byt (sel5 x1 x2 x3 x4 x5 (i - T)) ((i - T) % 4) else g0 i) →
      ∃ o' g', fX10_feed_L23 n x1 x2 x3 x4 x5 K f (nI k) o g = K o' g' ∧ o' 2 = nI (T + 20) ∧ (∀ i, i ≠ 2 → o' i = o0 i) ∧ (∀ i, g' i = if T ≤ i ∧ i < T + 20 then byt (sel5 x1 x2 x3 x4 x5 (i - T)) ((i - T) % 4) else g0 i) := by
  intro j
  induction j with
  | zero =>
    intro k f o g hk hf ho h2 h3
    obtain ⟨u, rfl⟩ : ∃ u, f = u + 1 := ⟨f - 1, by omega⟩
    have e : k = 20 := by omega
    subst e
    exact ⟨o, g, by rw [fX10_feed_L23, if_pos (by decide)], ho, h2, h3⟩
  | succ j ih =>
    intro k f o g hk hf ho h2 h3
    obtain ⟨u, rfl⟩ : ∃ u, f = u + 1 := ⟨f - 1, by omega⟩
    rw [feed1 (T := T + k) x1 x2 x3 x4 x5 (by omega) (by omega) ho]
    refine ih (k + 1) u _ _ (by omega) (by omega) (by rw [upd_s]; exact congrArg nI (by omega)) (fun i hi => by rw [upd_n _ _ hi]; exact h2 i hi) (fun i => ?_)
    by_cases e : i = T + k
    · subst e
      rw [upd_s, if_pos ⟨by omega, by omega⟩, show T + k - T = k by omega]
    · rw [upd_n _ _ e, h3 i]
      by_cases q : T ≤ i ∧ i < T + k
      · rw [if_pos q, if_pos ⟨q.1, by omega⟩]
      · rw [if_neg q, if_neg (fun z => q ⟨z.1, by omega⟩)]
theorem feedS {n T : Nat} (hn : 100 ≤ n) (x1 x2 x3 x4 x5 : Int32) (hT : T + 20 ≤ 800) {oo o f om fm : Nat → Int32} {c : Int64} (ho : o 1 = nI T) (hm : om 2 = nI T) (hf : ∀ i, i < T → f i = fm i) :
    ∃ o' f' om' fm', fX9_feed n x1 x2 x3 x4 x5 oo o c f = some (nI (T + 20), o', c, f') ∧ fX10_feed n x1 x2 x3 x4 x5 om fm = some (nI (T + 20), om', fm') ∧ o' 1 = nI (T + 20) ∧ om' 2 = nI (T + 20) ∧ (∀ k, k ≠ 1 → o' k = o k) ∧ (∀ k, k ≠ 2 → om' k = upd om 0 0 k) ∧ ∀ i, i < T + 20 → f' i = fm' i := by
  have l20 : (20 : Int32) = nI 20 := rfl
  have l800 : (800 : Int32) = nI 800 := rfl
  obtain ⟨o1, f1, a1, a2, a3, a4⟩ := putS (n := n) (by omega) x1 (T := T) (by omega) (g := f) (c := c) ho
  obtain ⟨o2, f2, b1, b2, b3, b4⟩ := putS (n := n) (by omega) x2 (T := T + 4) (by omega) (g := f1) (c := c) a2
  obtain ⟨o3, f3, c1, c2, c3, c4⟩ := putS (n := n) (by omega) x3 (T := T + 8) (by omega) (g := f2) (c := c) b2
  obtain ⟨o4, f4, d1, d2, d3, d4⟩ := putS (n := n) (by omega) x4 (T := T + 12) (by omega) (g := f3) (c := c) c2
  obtain ⟨o5, f5, e1, e2, e3, e4⟩ := putS (n := n) (by omega) x5 (T := T + 16) (by omega) (g := f4) (c := c) d2
  obtain ⟨om', fm', g1, g2, g3, g4⟩ := feed_loop (n := n) (T := T) x1 x2 x3 x4 x5 hT (o0 := upd om 0 0) (g0 := fm) (fun a b => some (a 2, a, b)) 20 0 n (upd om 0 0) fm (by omega) (by omega) (by rw [upd_n _ _ (by decide)]; exact hm) (fun _ _ => rfl) (fun i => by rw [if_neg (fun q => by omega)])
  refine ⟨o5, f5, om', fm', ?_, ?_, e2, g2, fun k hk => (e3 k hk).trans ((d3 k hk).trans ((c3 k hk).trans ((b3 k hk).trans (a3 k hk)))), g3, fun i hi => ?_⟩
  · rw [fX9_feed, ho, l20, l800, addI, if_pos (nI_le (by omega) (by omega)), a1, ob3_ss, b1, ob3_ss, c1, ob3_ss, d1, ob3_ss, e1, ob3_ss, e2]
  · rw [fX10_feed, hm, l20, l800, addI, if_pos (nI_le (by omega) (by omega))]
    refine (show fX10_feed_L23 n x1 x2 x3 x4 x5 _ n 0 _ _ = _ from g1).trans ?_
    rw [g2]
  · rw [g4 i, e4 i]
    by_cases q16 : T + 16 ≤ i
    · rw [if_pos ⟨by omega, by omega⟩, if_pos ⟨by omega, by omega⟩, sel5, if_pos (by omega), if_pos (by omega), if_pos (by omega), if_pos (by omega), show i - (T + 16) = (i - T) % 4 by omega]
    · rw [if_neg (fun q => q16 q.1), d4 i]
      by_cases q12 : T + 12 ≤ i
      · rw [if_pos ⟨by omega, by omega⟩, if_pos ⟨by omega, by omega⟩, sel5, if_pos (by omega), if_pos (by omega), if_pos (by omega), if_neg (by omega), show i - (T + 12) = (i - T) % 4 by omega]
      · rw [if_neg (fun q => q12 q.1), c4 i]
        by_cases q8 : T + 8 ≤ i
        · rw [if_pos ⟨by omega, by omega⟩, if_pos ⟨by omega, by omega⟩, sel5, if_pos (by omega), if_pos (by omega), if_neg (by omega), show i - (T + 8) = (i - T) % 4 by omega]
        · rw [if_neg (fun q => q8 q.1), b4 i]
          by_cases q4 : T + 4 ≤ i
          · rw [if_pos ⟨by omega, by omega⟩, if_pos ⟨by omega, by omega⟩, sel5, if_pos (by omega), if_neg (by omega), show i - (T + 4) = (i - T) % 4 by omega]
          · rw [if_neg (fun q => q4 q.1), a4 i]
            by_cases q0 : T ≤ i
            · rw [if_pos ⟨by omega, by omega⟩, if_pos ⟨by omega, by omega⟩, sel5, if_neg (by omega), show i - T = (i - T) % 4 by omega]
              congr 1; omega
            · rw [if_neg (fun q => q0 q.1), if_neg (fun q => q0 q.1)]
              exact hf i (by omega)
