/-! words and their codes; live and dead readings -/
def Wc (i : Nat) : Nat := PKf (sch i) 0 (SLn.getD i 0)
theorem sch_let : ∀ i, i < 22 → ∀ k, k < SLn.getD i 0 → 97 ≤ (sch i k).toNatClampNeg ∧ (sch i k).toNatClampNeg ≤ 122 ∧ sch i k = nI (sch i k).toNatClampNeg := by decide +kernel
theorem SLn8 : ∀ i, i < 22 → SLn.getD i 0 ≤ 8 := by decide +kernel
theorem LETs {i : Nat} (hi : i < 22) : LET (sch i) 0 (SLn.getD i 0) := fun k hk => by
  obtain ⟨a, b, c⟩ := sch_let i hi k hk
  exact ⟨_, a, b, by rw [Nat.zero_add]; exact c⟩
theorem Wc64 {i : Nat} (hi : i < 22) : Wc i < 2 ^ 64 := PKf.lt64 (LETs hi) (SLn8 i hi)

theorem Wc_0 : Wc 0 = 28559150663954023 := by decide +kernel
theorem Wc_1 : Wc 1 = 444351214452 := by decide +kernel
theorem Wc_2 : Wc 2 = 1885432178 := by decide +kernel
theorem Wc_3 : Wc 3 = 431415719795 := by decide +kernel
theorem Wc_4 : Wc 4 = 1952541797 := by decide +kernel
theorem Wc_5 : Wc 5 = 1852138852 := by decide +kernel
theorem Wc_6 : Wc 6 = 1936024942 := by decide +kernel
theorem Wc_7 : Wc 7 = 1735356005 := by decide +kernel
theorem Wc_8 : Wc 8 = 1668640883 := by decide +kernel
theorem Wc_9 : Wc 9 = 512735536499 := by decide +kernel
theorem Wc_10 : Wc 10 = 444301141350 := by decide +kernel
theorem Wc_11 : Wc 11 = 482854660462 := by decide +kernel
theorem Wc_12 : Wc 12 = 123623862531173 := by decide +kernel
theorem Wc_13 : Wc 13 = 448445703524 := by decide +kernel
theorem Wc_14 : Wc 14 = 7525353784737100659 := by decide +kernel
theorem Wc_15 : Wc 15 = 2002873972 := by decide +kernel
theorem Wc_16 : Wc 16 = 495690083187 := by decide +kernel
theorem Wc_17 : Wc 17 = 25209 := by decide +kernel
theorem Wc_18 : Wc 18 = 448546566771 := by decide +kernel
theorem Wc_19 : Wc 19 = 499985311091 := by decide +kernel
theorem Wc_20 : Wc 20 = 1885436275 := by decide +kernel
theorem Wc_21 : Wc 21 = 1752135026 := by decide +kernel
theorem cmpW {P W : Nat} (hP : P < 2 ^ 64) (hW : W < 2 ^ 64) : lg_cmp (lN P) (lN W) = 0 ↔ P = W := by
  rw [lg_cmp_eq]
  exact ⟨lN_inj64 hP hW, fun h => by rw [h]⟩
theorem isWord_loop {n z i : Nat} (hz : z ≤ 8) (hzi : z = SLn.getD i 0) {om lt : Nat → Int32} (h8 : om 8 = nI z) :
    ∀ (j k f : Nat) (x : Int32), k + j = z → j < f → (x = 0 ∨ x = 1) → (x = 1 ↔ ∀ t, t < k → lt t = sch i t) → ∃ v : Int32, (v = 0 ∨ v = 1) ∧ fX10_isWord_L32 n i om lt (fun x => if ¬ (x = 0 ∨ x = 1) then none else some x) f x (nI k) = some v ∧ (v = 1 ↔ ∀ t, t < z → lt t = sch i t) := by
  intro j
  induction j with
  | zero =>
    intro k f x hk hf hx hx2
    obtain ⟨u, rfl⟩ : ∃ u, f = u + 1 := ⟨f - 1, by omega⟩
    have e : k = z := by omega
    subst e
    exact ⟨x, hx, by rw [fX10_isWord_L32, h8, if_pos (Int32.le_refl _), if_neg (fun q => q hx)], hx2⟩
  | succ j ih =>
    intro k f x hk hf hx hx2
    obtain ⟨u, rfl⟩ : ∃ u, f = u + 1 := ⟨f - 1, by omega⟩
    have ext : ∀ y : Int32, (y = 1 ↔ (x = 1 ∧ lt k = sch i k)) → (y = 1 ↔ ∀ t, t < k + 1 → lt t = sch i t) := fun y hy => by
      rw [hy, hx2]
      exact ⟨fun q t ht => by
        by_cases e : t = k
        · subst e; exact q.2
        · exact q.1 t (by omega), fun q => ⟨fun t ht => q t (by omega), q k (by omega)⟩⟩
    rw [fX10_isWord_L32, h8, if_neg (nI_ge (by omega) (by omega)), sI]
    rcases hx with rfl | rfl
    · rw [if_pos i00]
      exact ih (k + 1) u 0 (by omega) (by omega) (Or.inl rfl) (ext 0 ⟨fun q => absurd q (by decide), fun q => absurd q.1 (by decide)⟩)
    · rw [if_neg i10, if_neg (ckI (k := k) (N := 8) (by omega) (by omega)), if_neg (ckI (k := k) (by omega) (by omega)), clI (by omega)]
      by_cases h : lt k = sch i k
      · rw [if_pos h]
        exact ih (k + 1) u 1 (by omega) (by omega) (Or.inr rfl) (ext 1 ⟨fun _ => ⟨rfl, h⟩, fun _ => rfl⟩)
      · rw [if_neg h]
        exact ih (k + 1) u 0 (by omega) (by omega) (Or.inl rfl) (ext 0 ⟨fun q => absurd q (by decide), fun q => absurd q.2 h⟩)
theorem isWordS {n z i : Nat} (hn : 100 ≤ n) (hi : i < 22) (hz : z ≤ 8) {om lt : Nat → Int32} (h13 : om 13 = 0) (h6 : om 6 = 2) (h8 : om 8 = nI z) (hl : LET lt 0 z) : fX10_isWord n i om lt = some (if PKf lt 0 z = Wc i then 1 else 0) := by
  have h88 := SLn8 i hi
  rw [fX10_isWord, if_pos h13, if_pos h6]
  by_cases e : z = SLn.getD i 0
  · rw [if_pos (by rw [h8, e])]
    obtain ⟨v, hv, e1, e2⟩ := isWord_loop (n := n) (i := i) (lt := lt) hz e h8 z 0 n 1 (by omega) (by omega) (Or.inr rfl) ⟨fun _ t ht => absurd ht (Nat.not_lt_zero t), fun _ => rfl⟩
    refine (show _ = _ from e1).trans ?_
    by_cases q : PKf lt 0 z = Wc i
    · rw [if_pos q]
      have := (PKf.inj hl (LETs hi) q).2
      rw [e2.mpr (fun t ht => by have := this t ht; rw [Nat.zero_add] at this; exact this)]
    · rw [if_neg q]
      rcases hv with rfl | rfl
      · rfl
      · exfalso
        refine q ?_
        unfold Wc
        rw [← e]
        exact PKf.cg (fun t ht => by rw [Nat.zero_add]; exact e2.mp rfl t ht)
  · rw [if_neg (fun q => e (nI_inj (by omega) (by omega) (h8.symm.trans q))), if_neg (show ¬ PKf lt 0 z = Wc i from fun q => e (PKf.inj hl (LETs hi) q).1)]
theorem isWord_n {n i : Nat} {om lt : Nat → Int32} (h6 : ¬ om 6 = 2) : fX10_isWord n i om lt = some 0 := by
  rw [fX10_isWord, if_neg h6]
  by_cases h : om 13 = 0
  · rw [if_pos h]
  · rw [if_neg h]
theorem isWord_d {n i : Nat} {om lt : Nat → Int32} (h13 : om 13 = 1) : fX10_isWord n i om lt = some 0 := by
  rw [fX10_isWord, if_neg (by rw [h13]; decide)]

def lw (P : Nat) : Int32 := if P = Wc 0 then 0 else if P = Wc 1 then 1 else if P = Wc 2 then 2 else if P = Wc 3 then 3 else if P = Wc 4 then 4 else if P = Wc 5 then 5 else if P = Wc 6 then 6 else if P = Wc 7 then 7 else -1
theorem lwS {n P : Nat} (hP : P < 2 ^ 64) {o : Nat → Int32} (h5 : o 5 = 1) : fX5_lineOfWord n o (lN P) = some (lw P) := by
  rw [fX5_lineOfWord, if_pos h5, lw]
  by_cases h0 : P = Wc 0
  · rw [if_pos h0, if_pos (show lg_cmp (lN P) 28559150663954023 = 0 from (cmpW hP (by decide)).mpr (h0.trans Wc_0))]
  · rw [if_neg h0, if_neg (show ¬ lg_cmp (lN P) 28559150663954023 = 0 from fun q => h0 (((cmpW (W := 28559150663954023) hP (by decide)).mp q).trans Wc_0.symm))]
    by_cases h1 : P = Wc 1
    · rw [if_pos h1, if_pos (show lg_cmp (lN P) 444351214452 = 0 from (cmpW hP (by decide)).mpr (h1.trans Wc_1))]
    · rw [if_neg h1, if_neg (show ¬ lg_cmp (lN P) 444351214452 = 0 from fun q => h1 (((cmpW (W := 444351214452) hP (by decide)).mp q).trans Wc_1.symm))]
      by_cases h2 : P = Wc 2
      · rw [if_pos h2, if_pos (show lg_cmp (lN P) 1885432178 = 0 from (cmpW hP (by decide)).mpr (h2.trans Wc_2))]
      · rw [if_neg h2, if_neg (show ¬ lg_cmp (lN P) 1885432178 = 0 from fun q => h2 (((cmpW (W := 1885432178) hP (by decide)).mp q).trans Wc_2.symm))]
        by_cases h3 : P = Wc 3
        · rw [if_pos h3, if_pos (show lg_cmp (lN P) 431415719795 = 0 from (cmpW hP (by decide)).mpr (h3.trans Wc_3))]
        · rw [if_neg h3, if_neg (show ¬ lg_cmp (lN P) 431415719795 = 0 from fun q => h3 (((cmpW (W := 431415719795) hP (by decide)).mp q).trans Wc_3.symm))]
          by_cases h4 : P = Wc 4
          · rw [if_pos h4, if_pos (show lg_cmp (lN P) 1952541797 = 0 from (cmpW hP (by decide)).mpr (h4.trans Wc_4))]
          · rw [if_neg h4, if_neg (show ¬ lg_cmp (lN P) 1952541797 = 0 from fun q => h4 (((cmpW (W := 1952541797) hP (by decide)).mp q).trans Wc_4.symm))]
            by_cases h5 : P = Wc 5
            · rw [if_pos h5, if_pos (show lg_cmp (lN P) 1852138852 = 0 from (cmpW hP (by decide)).mpr (h5.trans Wc_5))]
            · rw [if_neg h5, if_neg (show ¬ lg_cmp (lN P) 1852138852 = 0 from fun q => h5 (((cmpW (W := 1852138852) hP (by decide)).mp q).trans Wc_5.symm))]
              by_cases h6 : P = Wc 6
              · rw [if_pos h6, if_pos (show lg_cmp (lN P) 1936024942 = 0 from (cmpW hP (by decide)).mpr (h6.trans Wc_6))]
              · rw [if_neg h6, if_neg (show ¬ lg_cmp (lN P) 1936024942 = 0 from fun q => h6 (((cmpW (W := 1936024942) hP (by decide)).mp q).trans Wc_6.symm))]
                by_cases h7 : P = Wc 7
                · rw [if_pos h7, if_pos (show lg_cmp (lN P) 1735356005 = 0 from (cmpW hP (by decide)).mpr (h7.trans Wc_7))]
                · rw [if_neg h7, if_neg (show ¬ lg_cmp (lN P) 1735356005 = 0 from fun q => h7 (((cmpW (W := 1735356005) hP (by decide)).mp q).trans Wc_7.symm))]

def kw (P : Nat) : Int32 := if P = Wc 11 then 0 else if P = Wc 12 then 1 else if P = Wc 13 then 2 else if P = Wc 14 then 3 else -1
theorem kwS {n P : Nat} (hP : P < 2 ^ 64) {o : Nat → Int32} (h5 : o 5 = 1) : fX5_kindOfWord n o (lN P) = some (kw P) := by
  rw [fX5_kindOfWord, if_pos h5, kw]
  by_cases h11 : P = Wc 11
  · rw [if_pos h11, if_pos (show lg_cmp (lN P) 482854660462 = 0 from (cmpW hP (by decide)).mpr (h11.trans Wc_11))]
  · rw [if_neg h11, if_neg (show ¬ lg_cmp (lN P) 482854660462 = 0 from fun q => h11 (((cmpW (W := 482854660462) hP (by decide)).mp q).trans Wc_11.symm))]
    by_cases h12 : P = Wc 12
    · rw [if_pos h12, if_pos (show lg_cmp (lN P) 123623862531173 = 0 from (cmpW hP (by decide)).mpr (h12.trans Wc_12))]
    · rw [if_neg h12, if_neg (show ¬ lg_cmp (lN P) 123623862531173 = 0 from fun q => h12 (((cmpW (W := 123623862531173) hP (by decide)).mp q).trans Wc_12.symm))]
      by_cases h13 : P = Wc 13
      · rw [if_pos h13, if_pos (show lg_cmp (lN P) 448445703524 = 0 from (cmpW hP (by decide)).mpr (h13.trans Wc_13))]
      · rw [if_neg h13, if_neg (show ¬ lg_cmp (lN P) 448445703524 = 0 from fun q => h13 (((cmpW (W := 448445703524) hP (by decide)).mp q).trans Wc_13.symm))]
        by_cases h14 : P = Wc 14
        · rw [if_pos h14, if_pos (show lg_cmp (lN P) 7525353784737100659 = 0 from (cmpW hP (by decide)).mpr (h14.trans Wc_14))]
        · rw [if_neg h14, if_neg (show ¬ lg_cmp (lN P) 7525353784737100659 = 0 from fun q => h14 (((cmpW (W := 7525353784737100659) hP (by decide)).mp q).trans Wc_14.symm))]

theorem lw_n {n : Nat} {o : Nat → Int32} {c : Int64} (h5 : ¬ o 5 = 1) : fX5_lineOfWord n o c = some (-1) := by rw [fX5_lineOfWord, if_neg h5]
theorem kw_n {n : Nat} {o : Nat → Int32} {c : Int64} (h5 : ¬ o 5 = 1) : fX5_kindOfWord n o c = some (-1) := by rw [fX5_kindOfWord, if_neg h5]
/-! live, dead -/
def LIVE (o om : Nat → Int32) : Prop := om 13 = 0 ∧ o 2 = 0 ∧ om 9 = 0
def DEAD (o om : Nat → Int32) : Prop := om 13 = 1 ∧ ¬ o 2 = 0 ∧ o 2 = om 9 ∧ o 3 = om 10
def FO (o o' : Nat → Int32) : Prop := ∀ k, k ≠ 2 → k ≠ 3 → k ≠ 5 → k ≠ 6 → k ≠ 7 → k ≠ 8 → o' k = o k
def FM (om om' : Nat → Int32) : Prop := ∀ k, k ≠ 4 → k ≠ 5 → k ≠ 6 → k ≠ 7 → k ≠ 8 → k ≠ 9 → k ≠ 10 → k ≠ 13 → om' k = om k
theorem FO.refl (o : Nat → Int32) : FO o o := fun _ _ _ _ _ _ _ => rfl
theorem FM.refl (o : Nat → Int32) : FM o o := fun _ _ _ _ _ _ _ _ _ => rfl
theorem FO.trans {a b c : Nat → Int32} (h : FO a b) (h' : FO b c) : FO a c := fun k h1 h2 h3 h4 h5 h6 => (h' k h1 h2 h3 h4 h5 h6).trans (h k h1 h2 h3 h4 h5 h6)
theorem FM.trans {a b c : Nat → Int32} (h : FM a b) (h' : FM b c) : FM a c := fun k h1 h2 h3 h4 h5 h6 h7 h8 => (h' k h1 h2 h3 h4 h5 h6 h7 h8).trans (h k h1 h2 h3 h4 h5 h6 h7 h8)
theorem failed_l {n : Nat} {o : Nat → Int32} {c : Int64} (h : o 2 = 0) : fX5_failed n o c = some 0 := by rw [fX5_failed, if_pos h]
theorem failed_d {n : Nat} {o : Nat → Int32} {c : Int64} (h : ¬ o 2 = 0) : fX5_failed n o c = some 1 := by rw [fX5_failed, if_neg h]
theorem fail_l {n : Nat} {x : Int32} {o : Nat → Int32} {c : Int64} (h : o 2 = 0) : fX5_fail n x o c = some (-1, upd (upd o 2 x) 3 (o 6), c) := by rw [fX5_fail, failed_l h, ob1_ss, if_pos i00]
theorem fail_d {n : Nat} {x : Int32} {o : Nat → Int32} {c : Int64} (h : ¬ o 2 = 0) : fX5_fail n x o c = some (-1, o, c) := by rw [fX5_fail, failed_d h, ob1_ss, if_neg i10]
theorem taken_d {n : Nat} {x : Int32} {o tp : Nat → Int32} {c : Int64} (h : ¬ o 2 = 0) : fX5_taken n x o c tp = some (-1, o, c) := by rw [fX5_taken, failed_d h, ob1_ss, if_neg i10]
theorem wrong_l {n : Nat} {x y : Int32} {o : Nat → Int32} (h : o 13 = 0) : fX10_wrong n x y o = some (upd (upd (upd o 13 1) 9 x) 10 y) := by rw [fX10_wrong, if_pos h]
theorem wrong_d {n : Nat} {x y : Int32} {o : Nat → Int32} (h : o 13 = 1) : fX10_wrong n x y o = some o := by rw [fX10_wrong, if_neg (by rw [h]; decide)]
theorem die {x : Int32} (hx : ¬ x = 0) {o om : Nat → Int32} (h : o 6 = om 4) : DEAD (upd (upd o 2 x) 3 (o 6)) (upd (upd (upd om 13 1) 9 x) 10 (om 4)) ∧ FO o (upd (upd o 2 x) 3 (o 6)) ∧ FM om (upd (upd (upd om 13 1) 9 x) 10 (om 4)) :=
  ⟨⟨rfl, hx, rfl, h⟩, fun k h1 h2 _ _ _ _ => by rw [upd_n _ _ h2, upd_n _ _ h1], fun k _ _ _ _ _ h6 h7 h8 => by rw [upd_n _ _ h7, upd_n _ _ h6, upd_n _ _ h8]⟩
theorem TOKR.mono {L p q : Nat} {o om lt : Nat → Int32} {c : Int64} (h : TOKR L p o c om lt) (hq : q ≤ p) : TOKR L q o c om lt := by
  obtain ⟨h1, h2, a, b, h3, h4⟩ := h
  exact ⟨h1, h2, a, b, by omega, h4⟩
theorem TOKR.at {L p : Nat} {o om lt : Nat → Int32} {c : Int64} (h : TOKR L p o c om lt) : o 6 = om 4 := by
  obtain ⟨-, -, a, b, -, -, -, h1, h2, -⟩ := h
  rw [h1, h2]
/-- the tapes -/
def TAPE (L : Nat) (tp mt : Nat → Int32) : Prop := L ≤ 800 ∧ (∀ i, i < L → tp i = mt i) ∧ ∀ i, i < L → tp i ≠ -1
theorem take_lock {n L p : Nat} (hn : 1000 ≤ n) {tp mt : Nat → Int32} (ht : TAPE L tp mt) {o om lt : Nat → Int32} {c : Int64} (hl : LIVE o om) (hT : TOKR L p o c om lt) :
    ∃ o' c' om' lt', (∀ x, fX5_taken n x o c tp = some (x, o', c')) ∧ fX5_step n o c tp = some (o', c') ∧ fX10_next n om mt lt = some (om', lt') ∧ LIVE o' om' ∧ TOKR L p o' c' om' lt' ∧ FO o o' ∧ FM om om' ∧ (¬ o 5 = 0 → TOKR L (p + 1) o' c' om' lt') := by
  obtain ⟨h4, h3, a, b, h5, h6, h7, h8, h9, h10, h11, h12⟩ := hT
  obtain ⟨o', c', om', lt', e1, e2, e3, e4, e5⟩ := step_lock (n := n) (lt := lt) (c := c) hn ht.1 ht.2.1 ht.2.2 h7 h4 h3 h10 h11
  refine ⟨o', c', om', lt', fun x => by rw [fX5_taken, failed_l hl.2.1, ob1_ss, if_pos i00, e1, ob2_ss], e1, e2, ⟨(e5 13 (by decide) (by decide) (by decide) (by decide) (by decide)).trans hl.1, (e4 2 (by decide) (by decide) (by decide) (by decide)).trans hl.2.1, (e5 9 (by decide) (by decide) (by decide) (by decide) (by decide)).trans hl.2.2⟩, e3.mono (by omega), fun k h1 h2 h3 h4 h5 h6 => e4 k h3 h4 h5 h6, fun k h1 h2 h3 h4 h5 _ _ _ => e5 k h1 h2 h3 h4 h5, fun hne => e3.mono ?_⟩
  rcases h12 with ⟨z, -⟩ | ⟨z, -⟩
  · exact absurd z hne
  · omega
/-- what a reading's step leads to -/
def ST (L p : Nat) (o : Nat → Int32) (c : Int64) (om lt : Nat → Int32) : Prop := (LIVE o om ∧ TOKR L p o c om lt) ∨ DEAD o om
theorem amt_d {n : Nat} {W : Int64} {x3 x4 : Int32} {o tp : Nat → Int32} {c : Int64} (h : ¬ o 2 = 0) : fX5_takeAmount n W x3 x4 o c tp = some (-1, o, c) := by
  rw [fX5_takeAmount]
  simp only [jn, fail_d h, taken_d h, ob3_ss, ite_self]
theorem after_d {n i : Nat} {x2 x3 : Int32} {om mt lt : Nat → Int32} (h : om 13 = 1) : fX10_after n i x2 x3 om mt lt = some (x2, om, lt) := by
  have h' : ¬ om 13 = 0 := by rw [h]; decide
  rw [fX10_after, fX10_must, if_neg h', ob2_ss, fX10_number, if_neg h', ob3_ss]
/-- a word and a number behind it -/
theorem amount_lock {n L p i lo hi : Nat} (hn : 1000 ≤ n) (hi22 : i < 22) (hlh : lo ≤ hi) (hhi : hi ≤ 1000) {W : Int64} (hW : W = lN (Wc i)) {tp mt : Nat → Int32} (ht : TAPE L tp mt) {o om lt : Nat → Int32} {c : Int64} (hS : ST L p o c om lt) :
    ∃ v v2 o' c' om' lt', fX5_takeAmount n W (nI lo) (nI hi) o c tp = some (v, o', c') ∧ fX10_after n i (nI lo) (nI hi) om mt lt = some (v2, om', lt') ∧ ST L p o' c' om' lt' ∧ FO o o' ∧ FM om om' ∧ (om' 13 = 0 → om 13 = 0 ∧ v = v2 ∧ ∃ k, lo ≤ k ∧ k ≤ hi ∧ v = nI k) := by
  rcases hS with ⟨hl, hT⟩ | hd
  · have h13 := hl.1
    have bad : ∀ (od : Nat → Int32), ¬ od 2 = 0 → ∀ (x : Int32), True := fun _ _ _ => trivial
    clear bad
    by_cases hw : o 5 = 1 ∧ c = W
    · -- the word stands
      have tk := take_lock hn ht hl hT
      obtain ⟨o1, c1, om1, lt1, t1, -, t2, t3, t4, t5, t6, -⟩ := tk
      have wm : fX10_must n i om mt lt = some (om1, lt1) := by
        obtain ⟨h4, h3, a, b, h5, h6, h7, h8, h9, h10, h11, h12⟩ := hT
        rcases h12 with ⟨z, -⟩ | ⟨-, ⟨z1, z2, z, z3, z4, z5, z6, z7⟩ | ⟨z, -⟩ | ⟨z, -⟩ | ⟨z, -⟩⟩
        · exact absurd (z.symm.trans hw.1) (by decide)
        · have e : PKf lt 0 z = Wc i := lN_inj64 (PKf.lt64 z6 z4) (Wc64 hi22) (z7.symm.trans (hw.2.trans hW))
          rw [fX10_must, if_pos h13, fX10_takesWord, isWordS (by omega) hi22 z4 h13 z2 z5 z6, if_pos e, ob1_ss, if_neg i10, t2, ob2_ss, ob3_ss, if_neg i10]
        · exact absurd (z.symm.trans hw.1) (by decide)
        · exact absurd (z.symm.trans hw.1) (by decide)
        · exact absurd (z.symm.trans hw.1) (by decide)
      have c1_ : fX5_takeAmount n W (nI lo) (nI hi) o c tp = (if (o1 5) = 2 then if (o1 8) < nI lo then ob3 (fX5_fail n 4 o1 c1) (fun _ u_8 u_9 => ob3 (fX5_taken n (u_8 8) u_8 u_9 tp) (fun u_11 u_12 u_13 => some (u_11, u_12, u_13))) else if (o1 8) ≤ nI hi then ob3 (fX5_taken n (o1 8) o1 c1 tp) (fun u_16 u_17 u_18 => some (u_16, u_17, u_18)) else ob3 (fX5_fail n 4 o1 c1) (fun _ u_21 u_22 => ob3 (fX5_taken n (u_21 8) u_21 u_22 tp) (fun u_24 u_25 u_26 => some (u_24, u_25, u_26))) else some (-1, upd (upd o1 2 1) 3 (o1 6), c1)) := by
        rw [fX5_takeAmount]
        dsimp only [jn]
        rw [if_pos hw.1, if_pos (show lg_cmp c W = 0 from (lg_cmp_eq _ _).mpr hw.2), t1, ob3_ss]
        by_cases q : o1 5 = 2
        · rw [if_pos q, if_pos q]
        · rw [if_neg q, if_neg q, fail_l t3.2.1, ob3_ss]
          have dd : ¬ upd (upd o1 2 1) 3 (o1 6) 2 = 0 := by rw [upd_n _ _ (by decide), upd_s]; decide
          simp only [fail_d dd, taken_d dd, ob3_ss, ite_self]
      rw [c1_, fX10_after, wm, ob2_ss, fX10_number, if_pos t3.1]
      dsimp only [jn]
      have dieN : ∀ x : Int32, ¬ x = 0 → ∃ v v2 o' c' om' lt', some ((-1 : Int32), upd (upd o1 2 x) 3 (o1 6), c1) = some (v, o', c') ∧ some (nI lo, upd (upd (upd om1 13 1) 9 x) 10 (om1 4), lt1) = some (v2, om', lt') ∧ ST L p o' c' om' lt' ∧ FO o o' ∧ FM om om' ∧ (om' 13 = 0 → om 13 = 0 ∧ v = v2 ∧ ∃ k, lo ≤ k ∧ k ≤ hi ∧ v = nI k) := fun x hx => by
        obtain ⟨d1, d2, d3⟩ := die hx t4.at
        exact ⟨_, _, _, _, _, _, rfl, rfl, Or.inr d1, t5.trans d2, t6.trans d3, fun q => absurd (d1.1.symm.trans q) (by decide)⟩
      have hsort : (o1 5 = 2 ∧ om1 6 = 3 ∧ o1 8 = om1 7) ∨ (¬ o1 5 = 2 ∧ ¬ om1 6 = 3) := by
        obtain ⟨-, -, a, b, -, -, -, -, -, -, -, h12⟩ := id t4
        rcases h12 with ⟨z, z'⟩ | ⟨-, ⟨z, z', -⟩ | z | ⟨z, z'⟩ | ⟨z, z'⟩⟩
        · exact Or.inr ⟨by rw [z]; decide, by rw [z']; decide⟩
        · exact Or.inr ⟨by rw [z]; decide, by rw [z']; decide⟩
        · exact Or.inl z
        · exact Or.inr ⟨by rw [z]; decide, by rw [z']; decide⟩
        · exact Or.inr ⟨by rw [z]; decide, by rw [z']; decide⟩
      rcases hsort with ⟨z1, z2, z3⟩ | ⟨z1, z2⟩
      · rw [if_pos z1, if_pos z2, ← z3]
        have d4 : ¬ upd (upd o1 2 4) 3 (o1 6) 2 = 0 := by rw [upd_n _ _ (by decide), upd_s]; decide
        rcases rng n lo hi (o1 8) (by omega) (by omega) with ⟨k, k1, k2, k3, k4, -⟩ | ⟨k4, -⟩
        · rw [k4, ob1_ss, if_neg i10, if_pos t3.1]
          obtain ⟨o2, c2, om2, lt2, s1, -, s2, s3, s4, s5, s6, -⟩ := take_lock hn ht t3 t4
          rw [k3, if_neg (nI_nlt k1 (by omega)), if_pos (nI_le k2 (by omega)), s1, ob3_ss, s2, ob2_ss, ob3_ss]
          exact ⟨_, _, _, _, _, _, rfl, rfl, Or.inl ⟨s3, s4⟩, t5.trans s5, t6.trans s6, fun _ => ⟨h13, rfl, k, k1, k2, rfl⟩⟩
        · rw [k4, ob1_ss, if_pos i00, wrong_l t3.1, ob1_ss, if_neg (show ¬ upd (upd (upd om1 13 1) 9 4) 10 (om1 4) 13 = 0 from i10), ob3_ss]
          have cl : (if (o1 8) < nI lo then ob3 (fX5_fail n 4 o1 c1) (fun _ u_8 u_9 => ob3 (fX5_taken n (u_8 8) u_8 u_9 tp) (fun u_11 u_12 u_13 => some (u_11, u_12, u_13))) else if (o1 8) ≤ nI hi then ob3 (fX5_taken n (o1 8) o1 c1 tp) (fun u_16 u_17 u_18 => some (u_16, u_17, u_18)) else ob3 (fX5_fail n 4 o1 c1) (fun _ u_21 u_22 => ob3 (fX5_taken n (u_21 8) u_21 u_22 tp) (fun u_24 u_25 u_26 => some (u_24, u_25, u_26)))) = some ((-1 : Int32), upd (upd o1 2 4) 3 (o1 6), c1) := by
            rw [fail_l t3.2.1, ob3_ss, taken_d d4, ob3_ss]
            by_cases q1 : o1 8 < nI lo
            · rw [if_pos q1]
            · rw [if_neg q1]
              by_cases q2 : o1 8 ≤ nI hi
              · exfalso
                rw [fX10_in, if_neg q1, if_neg (Int32.not_lt.mpr q2)] at k4
                exact absurd (Option.some.inj k4) (by decide)
              · rw [if_neg q2]
          rw [cl]
          exact dieN 4 (by decide)
      · rw [if_neg z1, if_neg z2, wrong_l t3.1, ob1_ss, if_neg (show ¬ upd (upd (upd om1 13 1) 9 1) 10 (om1 4) 13 = 0 from i10), ob3_ss]
        exact dieN 1 (by decide)
    · -- it doesn't
      have d1 : ¬ upd (upd o 2 1) 3 (o 6) 2 = 0 := by rw [upd_n _ _ (by decide), upd_s]; decide
      have cl : fX5_takeAmount n W (nI lo) (nI hi) o c tp = some (-1, upd (upd o 2 1) 3 (o 6), c) := by
        rw [fX5_takeAmount]
        have tail : (if (o 5) = 1 then if (lg_cmp c W) = 0 then (none : Option (Int32 × (Nat → Int32) × Int64)) else some (-1, upd (upd o 2 1) 3 (o 6), c) else some (-1, upd (upd o 2 1) 3 (o 6), c)) = some (-1, upd (upd o 2 1) 3 (o 6), c) := by
          by_cases q : o 5 = 1
          · rw [if_pos q, if_neg (fun z => hw ⟨q, (lg_cmp_eq _ _).mp z⟩)]
          · rw [if_neg q]
        dsimp only [jn]
        by_cases q : o 5 = 1
        · rw [if_pos q, if_neg (fun z => hw ⟨q, (lg_cmp_eq _ _).mp z⟩), fail_l hl.2.1, ob3_ss]
          simp only [fail_d d1, taken_d d1, ob3_ss, ite_self]
        · rw [if_neg q, fail_l hl.2.1, ob3_ss]
          simp only [fail_d d1, taken_d d1, ob3_ss, ite_self]
      have wm : fX10_must n i om mt lt = some (upd (upd (upd om 13 1) 9 1) 10 (om 4), lt) := by
        have iw : fX10_isWord n i om lt = some 0 := by
          obtain ⟨h4, h3, a, b, h5, h6, h7, h8, h9, h10, h11, h12⟩ := hT
          rcases h12 with ⟨-, z'⟩ | ⟨-, ⟨z1, z2, z, z3, z4, z5, z6, z7⟩ | ⟨-, z', -⟩ | ⟨-, z'⟩ | ⟨-, z'⟩⟩
          · exact isWord_n (by rw [z']; decide)
          · rw [isWordS (by omega) hi22 z4 h13 z2 z5 z6, if_neg (fun e => hw ⟨z1, by rw [z7, hW, e]⟩)]
          · exact isWord_n (by rw [z']; decide)
          · exact isWord_n (by rw [z']; decide)
          · exact isWord_n (by rw [z']; decide)
        rw [fX10_must, if_pos h13, fX10_takesWord, iw, ob1_ss, if_pos i00, ob3_ss, if_pos i00, wrong_l h13, ob1_ss]
      obtain ⟨e1, e2, e3⟩ := die (x := 1) (by decide) hT.at
      refine ⟨_, nI lo, _, _, _, lt, cl, ?_, Or.inr e1, e2, e3, fun q => absurd (e1.1.symm.trans q) (by decide)⟩
      rw [fX10_after, wm, ob2_ss, fX10_number, if_neg (show ¬ upd (upd (upd om 13 1) 9 1) 10 (om 4) 13 = 0 from i10), ob3_ss]
  · exact ⟨_, _, _, _, _, _, amt_d hd.2.1, after_d hd.1, Or.inr hd, FO.refl _, FM.refl _, fun q => absurd (hd.1.symm.trans q) (by decide)⟩
