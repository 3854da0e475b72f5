/-! long codes of words (the first rows out of the kit: laws/BITS.to-paste) -/
theorem wb_tb (n : Nat) : (lN n).toBitVec = BitVec.ofNat 64 n := rfl
theorem wb_inj {a b : Int64} (h : a.toBitVec = b.toBitVec) : a = b := Int64.toBitVec_inj.mp h
theorem wb_tn {n : Nat} (h : n < 2 ^ 64) : (lN n).toBitVec.toNat = n := by rw [wb_tb, BitVec.toNat_ofNat, Nat.mod_eq_of_lt h]
theorem wb_c : ∀ k, k < 64 → ((nI k).toInt64 &&& 63) = lN k := by decide +kernel
theorem wb_sm : ∀ k, k < 64 → (BitVec.ofNat 64 k).smod 64 = BitVec.ofNat 64 k := by decide +kernel
theorem wb_shl (n : Nat) {k : Nat} (hk : k < 64) : lN n <<< ((nI k).toInt64 &&& 63) = lN (n * 2 ^ k) := by
  rw [wb_c k hk]
  apply wb_inj
  rw [Int64.toBitVec_shiftLeft, wb_tb, wb_tb, wb_tb, wb_sm k hk]
  apply BitVec.eq_of_toNat_eq
  rw [BitVec.shiftLeft_eq', BitVec.toNat_shiftLeft, BitVec.toNat_ofNat, BitVec.toNat_ofNat, BitVec.toNat_ofNat, Nat.mod_eq_of_lt (show k < 2 ^ 64 by omega), Nat.shiftLeft_eq, Nat.mul_mod, Nat.mod_mod, ← Nat.mul_mod]
theorem wb_or {a b : Nat} (ha : a < 2 ^ 64) (hb : b < 2 ^ 64) : lN a ||| lN b = lN (a ||| b) := by
  apply wb_inj
  rw [Int64.toBitVec_or, wb_tb, wb_tb, wb_tb]
  apply BitVec.eq_of_toNat_eq
  rw [BitVec.toNat_or, BitVec.toNat_ofNat, BitVec.toNat_ofNat, BitVec.toNat_ofNat, Nat.mod_eq_of_lt ha, Nat.mod_eq_of_lt hb, Nat.mod_eq_of_lt (Nat.or_lt_two_pow ha hb)]
theorem lN_inj64 {a b : Nat} (ha : a < 2 ^ 64) (hb : b < 2 ^ 64) (h : lN a = lN b) : a = b := by
  have := congrArg (fun z => z.toBitVec.toNat) h
  simp only [wb_tn ha, wb_tn hb] at this
  exact this
theorem lN_step {p b : Nat} (hb : b < 256) (h : p * 256 + b < 2 ^ 64) : (lN p <<< ((8 : Int32).toInt64 &&& 63)) ||| (nI b).toInt64 = lN (p * 256 + b) := by
  have e1 : lN p <<< ((8 : Int32).toInt64 &&& 63) = lN (p * 256) := wb_shl p (k := 8) (by omega)
  rw [e1, nI_l (Nat.lt_of_lt_of_le hb (by decide)), wb_or (Nat.lt_of_le_of_lt (Nat.le_add_right _ _) h) (Nat.lt_of_lt_of_le hb (by decide))]
  refine congrArg lN ?_
  have := Nat.two_pow_add_eq_or_of_lt (i := 8) (b := b) (by omega) p
  rw [show (2 : Nat) ^ 8 = 256 by decide] at this
  rw [Nat.mul_comm p 256, ← this]
/-- the code of the letters f s, f (s+1), .. -/
def PKf (f : Nat → Int32) (s : Nat) : Nat → Nat
  | 0 => 0
  | k + 1 => PKf f s k * 256 + (f (s + k)).toNatClampNeg
def LET (f : Nat → Int32) (s k : Nat) : Prop := ∀ i, i < k → ∃ b, 97 ≤ b ∧ b ≤ 122 ∧ f (s + i) = nI b
theorem LET.le {f : Nat → Int32} {s k j : Nat} (h : LET f s k) (hj : j ≤ k) : LET f s j := fun i hi => h i (by omega)
theorem PKf.cg {f g : Nat → Int32} {s t : Nat} : ∀ {k : Nat}, (∀ i, i < k → f (s + i) = g (t + i)) → PKf f s k = PKf g t k
  | 0, _ => rfl
  | k + 1, h => by rw [PKf, PKf, PKf.cg (fun i hi => h i (by omega)), h k (by omega)]
theorem PKf.lt {f : Nat → Int32} {s : Nat} : ∀ {k : Nat}, LET f s k → PKf f s k < 256 ^ k
  | 0, _ => Nat.lt_succ_self 0
  | k + 1, h => by
    have i := PKf.lt (h.le (Nat.le_succ k))
    obtain ⟨b, b1, b2, b3⟩ := h k (by omega)
    rw [PKf, b3, clI (by omega), Nat.pow_succ]
    omega
theorem PKf.lt64 {f : Nat → Int32} {s k : Nat} (h : LET f s k) (hk : k ≤ 8) : PKf f s k < 2 ^ 64 := by
  have i := PKf.lt h
  have p : 256 ^ k ≤ 2 ^ 64 := (by decide +kernel : ∀ k, k ≤ 8 → 256 ^ k ≤ 2 ^ 64) k hk
  omega
theorem PKf.inj {f g : Nat → Int32} {s t : Nat} : ∀ {k j : Nat}, LET f s k → LET g t j → PKf f s k = PKf g t j → k = j ∧ ∀ i, i < k → f (s + i) = g (t + i)
  | 0, 0, _, _, _ => ⟨rfl, fun i hi => absurd hi (Nat.not_lt_zero i)⟩
  | 0, j + 1, _, h2, e => by
    obtain ⟨b, b1, b2, b3⟩ := h2 j (by omega)
    rw [PKf, PKf, b3, clI (by omega)] at e
    omega
  | k + 1, 0, h1, _, e => by
    obtain ⟨b, b1, b2, b3⟩ := h1 k (by omega)
    rw [PKf, PKf, b3, clI (by omega)] at e
    omega
  | k + 1, j + 1, h1, h2, e => by
    obtain ⟨b, b1, b2, b3⟩ := h1 k (by omega)
    obtain ⟨d, d1, d2, d3⟩ := h2 j (by omega)
    rw [PKf, PKf, b3, d3, clI (by omega), clI (by omega)] at e
    have eb : b = d := by omega
    have ep : PKf f s k = PKf g t j := by omega
    obtain ⟨e1, e2⟩ := PKf.inj (h1.le (Nat.le_succ k)) (h2.le (Nat.le_succ j)) ep
    subst e1
    refine ⟨rfl, fun i hi => ?_⟩
    by_cases q : i = k
    · subst q; rw [b3, d3, eb]
    · exact e2 i (by omega)
/-! a token, as both hold it -/
def TOKR (L p : Nat) (o : Nat → Int32) (c : Int64) (om lt : Nat → Int32) : Prop :=
  o 4 = nI L ∧ om 3 = nI L ∧ ∃ a b : Nat, p ≤ a ∧ a ≤ b ∧ b ≤ L ∧ o 6 = nI a ∧ om 4 = nI a ∧ o 7 = nI b ∧ om 5 = nI b ∧
  ((o 5 = 0 ∧ om 6 = 0) ∨ (a < b ∧ ((o 5 = 1 ∧ om 6 = 2 ∧ ∃ z, 1 ≤ z ∧ z ≤ 8 ∧ om 8 = nI z ∧ LET lt 0 z ∧ c = lN (PKf lt 0 z)) ∨ (o 5 = 2 ∧ om 6 = 3 ∧ o 8 = om 7) ∨ (o 5 = 3 ∧ om 6 = 59) ∨ (o 5 = 4 ∧ om 6 = 1))))
theorem look_in {n L a : Nat} (hL : L ≤ 800) (ha : a < L) {om mt : Nat → Int32} (h3 : om 3 = nI L) : fX10_look n (nI a) om mt = some (mt a) := by
  rw [fX10_look, h3, if_neg (nI_ge (by omega) (by omega)), if_neg (ckI (by omega) (by omega)), clI (by omega)]
theorem look_end {n L : Nat} (hL : L ≤ 800) {om mt : Nat → Int32} (h3 : om 3 = nI L) : fX10_look n (nI L) om mt = some (-1) := by
  rw [fX10_look, h3, if_pos (Int32.le_refl _)]
theorem small_y {n b : Nat} (h1 : 97 ≤ b) (h2 : b ≤ 122) : fX10_isSmall n (nI b) = some 1 := by
  rw [fX10_isSmall, if_neg (show ¬ nI b < 97 from nI_nlt (b := 97) h1 (by omega)), if_neg (show ¬ 122 < nI b from nI_nlt (a := 122) h2 (by omega))]
theorem small_c (n : Nat) (x : Int32) : (∃ b, 97 ≤ b ∧ b ≤ 122 ∧ x = nI b) ∨ ((x < 97 ∨ (¬ x < 97 ∧ 122 < x)) ∧ fX10_isSmall n x = some 0) := by
  by_cases h1 : x < 97
  · exact Or.inr ⟨Or.inl h1, by rw [fX10_isSmall, if_pos h1]⟩
  · by_cases h2 : 122 < x
    · exact Or.inr ⟨Or.inr ⟨h1, h2⟩, by rw [fX10_isSmall, if_neg h1, if_pos h2]⟩
    · rcases pk_ix x (n := 123) (by omega) with q | q | ⟨k, hk, e⟩
      · exfalso
        refine h1 ?_
        rw [Int32.lt_iff_toInt_lt] at q ⊢
        have z0 : (0 : Int32).toInt = 0 := by decide
        have z97 : (97 : Int32).toInt = 97 := by decide
        omega
      · exfalso
        refine h2 ?_
        rw [Int32.le_iff_toInt_le, nI_toInt (by omega)] at q
        rw [Int32.lt_iff_toInt_lt]
        have z : (122 : Int32).toInt = 122 := by decide
        omega
      · refine Or.inl ⟨k, ?_, by omega, e⟩
        rcases Nat.lt_or_ge k 97 with z | z
        · exact absurd (by rw [e]; exact nI_lt (b := 97) z (by omega)) h1
        · exact z
theorem digit_c (n : Nat) (x : Int32) : (∃ b, 48 ≤ b ∧ b ≤ 57 ∧ x = nI b ∧ fX10_isDigit n x = some 1) ∨ ((x < 48 ∨ (¬ x < 48 ∧ 57 < x)) ∧ fX10_isDigit n x = some 0) := by
  by_cases h1 : x < 48
  · exact Or.inr ⟨Or.inl h1, by rw [fX10_isDigit, if_pos h1]⟩
  · by_cases h2 : 57 < x
    · exact Or.inr ⟨Or.inr ⟨h1, h2⟩, by rw [fX10_isDigit, if_neg h1, if_pos h2]⟩
    · rcases pk_ix x (n := 58) (by omega) with q | q | ⟨k, hk, e⟩
      · exfalso
        refine h1 ?_
        rw [Int32.lt_iff_toInt_lt] at q ⊢
        have z0 : (0 : Int32).toInt = 0 := by decide
        have z97 : (48 : Int32).toInt = 48 := by decide
        omega
      · exfalso
        refine h2 ?_
        rw [Int32.le_iff_toInt_le, nI_toInt (by omega)] at q
        rw [Int32.lt_iff_toInt_lt]
        have z : (57 : Int32).toInt = 57 := by decide
        omega
      · refine Or.inl ⟨k, ?_, by omega, e, by rw [fX10_isDigit, if_neg h1, if_neg h2]⟩
        rcases Nat.lt_or_ge k 48 with z | z
        · exact absurd (by rw [e]; exact nI_lt (b := 48) z (by omega)) h1
        · exact z
theorem skip_lock {n L : Nat} (hL : L ≤ 800) {tp mt om : Nat → Int32} (ht : ∀ i, i < L → tp i = mt i) (h3 : om 3 = nI L) (c : Int64) (K : (Nat → Int32) → Int64 → Option ((Nat → Int32) × Int64)) (K2 : Int32 → Option ((Nat → Int32) × (Nat → Int32))) :
    ∀ (j a f1 f2 : Nat) (o : Nat → Int32), a + j = L → j < f1 → j < f2 → o 6 = nI a → o 4 = nI L → ∃ a' o', a ≤ a' ∧ a' ≤ L ∧ (a' < L → ¬ tp a' = 32) ∧ o' 6 = nI a' ∧ (∀ k, k ≠ 6 → o' k = o k) ∧ fX5_step_L8 n tp K f1 o c = K o' c ∧ fX10_next_L5 n om mt K2 f2 (nI a) = K2 (nI a') := by
  intro j
  induction j with
  | zero =>
    intro a f1 f2 o ha hf1 hf2 h6 h4
    obtain ⟨u1, rfl⟩ : ∃ u, f1 = u + 1 := ⟨f1 - 1, by omega⟩
    obtain ⟨u2, rfl⟩ : ∃ u, f2 = u + 1 := ⟨f2 - 1, by omega⟩
    have e : a = L := by omega
    subst e
    exact ⟨a, o, Nat.le_refl _, Nat.le_refl _, fun q => by omega, h6, fun _ _ => rfl, by rw [fX5_step_L8, h4, h6, if_pos (Int32.le_refl _)], by rw [fX10_next_L5, look_end hL h3, ob1_ss, if_neg (by decide)]⟩
  | succ j ih =>
    intro a f1 f2 o ha hf1 hf2 h6 h4
    obtain ⟨u1, rfl⟩ : ∃ u, f1 = u + 1 := ⟨f1 - 1, by omega⟩
    obtain ⟨u2, rfl⟩ : ∃ u, f2 = u + 1 := ⟨f2 - 1, by omega⟩
    rw [fX5_step_L8, h4, h6, if_neg (nI_ge (by omega) (by omega)), if_neg (ckI (by omega) (by omega)), clI (by omega), fX10_next_L5, look_in hL (by omega) h3, ob1_ss, ← ht a (by omega), sI]
    by_cases hs : tp a = 32
    · rw [if_pos hs, if_pos hs]
      obtain ⟨a', o', t1, t2, t3, t4, t5, t6, t7⟩ := ih (a + 1) u1 u2 (upd o 6 (nI (a + 1))) (by omega) (by omega) (by omega) (upd_s _ _ _) (by rw [upd_n _ _ (by decide)]; exact h4)
      exact ⟨a', o', by omega, t2, t3, t4, fun k hk => (t5 k hk).trans (upd_n _ _ hk), t6, t7⟩
    · rw [if_neg hs, if_neg hs]
      exact ⟨a, o, Nat.le_refl _, by omega, fun _ => hs, h6, fun _ _ => rfl, rfl, rfl⟩
theorem word_lock {n L : Nat} (hL : L ≤ 800) {tp mt : Nat → Int32} (ht : ∀ i, i < L → tp i = mt i) (K : (Nat → Int32) → Int64 → Option ((Nat → Int32) × Int64)) (K2 : Int32 → (Nat → Int32) → (Nat → Int32) → Option ((Nat → Int32) × (Nat → Int32))) :
    ∀ (j b z f1 f2 : Nat) (o om lt : Nat → Int32) (c : Int64), b + j = L → j < f1 → j < f2 → z ≤ b → o 7 = nI b → o 4 = nI L → om 3 = nI L → om 8 = nI z → (z ≤ 8 → LET lt 0 z ∧ c = lN (PKf lt 0 z)) →
      ∃ b' z' o' c' om' lt', b ≤ b' ∧ b' ≤ L ∧ z' + b = z + b' ∧ ((∃ q, 97 ≤ q ∧ q ≤ 122 ∧ tp b = nI q) → 0 < j → b < b') ∧ o' 7 = nI b' ∧ (∀ k, k ≠ 7 → o' k = o k) ∧ om' 8 = nI z' ∧ (∀ k, k ≠ 8 → om' k = om k) ∧ (z' ≤ 8 → LET lt' 0 z' ∧ c' = lN (PKf lt' 0 z')) ∧ fX5_stepWord_L5 n tp K f1 o c = K o' c' ∧ fX10_next_L67 n mt K2 f2 (nI b) om lt = K2 (nI b') om' lt' := by
  intro j
  induction j with
  | zero =>
    intro b z f1 f2 o om lt c hb hf1 hf2 hz h7 h4 h3 h8 hc
    obtain ⟨u1, rfl⟩ : ∃ u, f1 = u + 1 := ⟨f1 - 1, by omega⟩
    obtain ⟨u2, rfl⟩ : ∃ u, f2 = u + 1 := ⟨f2 - 1, by omega⟩
    have e : b = L := by omega
    subst e
    exact ⟨b, z, o, c, om, lt, Nat.le_refl _, Nat.le_refl _, rfl, fun _ q => by omega, h7, fun _ _ => rfl, h8, fun _ _ => rfl, hc, by rw [fX5_stepWord_L5, h4, h7, if_pos (Int32.le_refl _)], by rw [fX10_next_L67, look_end hL h3, ob1_ss, show fX10_isSmall n (-1) = some 0 from rfl, ob1_ss, if_pos i00]⟩
  | succ j ih =>
    intro b z f1 f2 o om lt c hb hf1 hf2 hz h7 h4 h3 h8 hc
    obtain ⟨u1, rfl⟩ : ∃ u, f1 = u + 1 := ⟨f1 - 1, by omega⟩
    obtain ⟨u2, rfl⟩ : ∃ u, f2 = u + 1 := ⟨f2 - 1, by omega⟩
    rw [fX5_stepWord_L5, h4, h7, if_neg (nI_ge (by omega) (by omega)), if_neg (ckI (by omega) (by omega)), clI (by omega), fX10_next_L67, look_in hL (by omega) h3, ob1_ss, ← ht b (by omega), sI]
    rcases small_c n (tp b) with ⟨q, q1, q2, q3⟩ | ⟨q1, q2⟩
    · rw [q3, small_y q1 q2, ob1_ss, if_neg i10, if_neg (show ¬ nI q < 97 from nI_nlt (b := 97) q1 (by omega)), if_neg (ckK (by omega) (by omega)), if_neg (show ¬ 122 < nI q from nI_nlt (a := 122) q2 (by omega)), if_neg (ckK (by omega) (by omega)), h8, sI]
      by_cases h9 : z < 8
      · obtain ⟨hl, hcc⟩ := hc (by omega)
        have hl' : LET (upd lt z (nI q)) 0 (z + 1) := fun i hi => by
          by_cases e : i = z
          · subst e; exact ⟨q, q1, q2, by rw [Nat.zero_add, upd_s]⟩
          · obtain ⟨d, d1, d2, d3⟩ := hl i (by omega)
            exact ⟨d, d1, d2, by rw [Nat.zero_add, upd_n _ _ e]; rw [Nat.zero_add] at d3; exact d3⟩
        have epk : PKf (upd lt z (nI q)) 0 (z + 1) = PKf lt 0 z * 256 + q := by
          rw [PKf, Nat.zero_add, upd_s, clI (by omega), PKf.cg (g := lt) (t := 0) (fun i hi => by rw [Nat.zero_add, upd_n _ _ (by omega)])]
        have h64 := PKf.lt64 hl' (by omega)
        rw [epk] at h64
        rw [if_neg (show ¬ (8 : Int32) ≤ nI z from nI_ge (b := 8) (by omega) (by omega)), ob1_ss, if_neg (ckI (k := z) (by omega) (by omega)), clI (k := z) (by omega), hcc, lN_step (by omega) h64]
        obtain ⟨b', z', o', c', om', lt', t1, t2, t3, t4, t5, t6, t7, t8, t9, t10, t11⟩ := ih (b + 1) (z + 1) u1 u2 (upd o 7 (nI (b + 1))) (upd om 8 (nI (z + 1))) (upd lt z (nI q)) (lN (PKf lt 0 z * 256 + q)) (by omega) (by omega) (by omega) (by omega) (upd_s _ _ _) (by rw [upd_n _ _ (by decide)]; exact h4) (by rw [upd_n _ _ (by decide)]; exact h3) (upd_s _ _ _) (fun _ => ⟨hl', by rw [epk]⟩)
        exact ⟨b', z', o', c', om', lt', by omega, t2, by omega, fun _ _ => by omega, t5, fun k hk => (t6 k hk).trans (upd_n _ _ hk), t7, fun k hk => (t8 k hk).trans (upd_n _ _ hk), t9, t10, t11⟩
      · rw [if_pos (show (8 : Int32) ≤ nI z from nI_le (a := 8) (by omega) (by omega))]
        obtain ⟨b', z', o', c', om', lt', t1, t2, t3, t4, t5, t6, t7, t8, t9, t10, t11⟩ := ih (b + 1) (z + 1) u1 u2 (upd o 7 (nI (b + 1))) (upd om 8 (nI (z + 1))) lt ((c <<< ((8 : Int32).toInt64 &&& 63)) ||| (nI q).toInt64) (by omega) (by omega) (by omega) (by omega) (upd_s _ _ _) (by rw [upd_n _ _ (by decide)]; exact h4) (by rw [upd_n _ _ (by decide)]; exact h3) (upd_s _ _ _) (fun q => by omega)
        exact ⟨b', z', o', c', om', lt', by omega, t2, by omega, fun _ _ => by omega, t5, fun k hk => (t6 k hk).trans (upd_n _ _ hk), t7, fun k hk => (t8 k hk).trans (upd_n _ _ hk), t9, t10, t11⟩
    · rw [q2, ob1_ss, if_pos i00]
      refine ⟨b, z, o, c, om, lt, Nat.le_refl _, by omega, rfl, fun ⟨q, r1, r2, r3⟩ _ => ?_, h7, fun _ _ => rfl, h8, fun _ _ => rfl, hc, ?_, rfl⟩
      · rw [r3, small_y r1 r2] at q2
        exact absurd (Option.some.inj q2) (by decide)
      · rcases q1 with z1 | ⟨z1, z2⟩
        · rw [if_pos z1]
        · rw [if_neg z1, if_neg (ckK (by omega) (by omega)), if_pos z2]
theorem whole_lock {n L : Nat} (hL : L ≤ 800) {tp mt : Nat → Int32} (ht : ∀ i, i < L → tp i = mt i) (c : Int64) (K : (Nat → Int32) → Int64 → Option ((Nat → Int32) × Int64)) (K2 : Int32 → Int32 → (Nat → Int32) → Option ((Nat → Int32) × (Nat → Int32))) :
    ∀ (j b z f1 f2 : Nat) (o om : Nat → Int32), b + j = L → j < f1 → j < f2 → z ≤ b → o 7 = nI b → o 4 = nI L → om 3 = nI L → (z ≤ 3 → o 8 = om 7) →
      ∃ b' z' o' om', b ≤ b' ∧ b' ≤ L ∧ z' + b = z + b' ∧ ((∃ q, 48 ≤ q ∧ q ≤ 57 ∧ tp b = nI q) → 0 < j → b < b') ∧ o' 7 = nI b' ∧ (∀ k, k ≠ 7 → k ≠ 8 → o' k = o k) ∧ (∀ k, k ≠ 7 → om' k = om k) ∧ (z' ≤ 3 → o' 8 = om' 7) ∧ fX5_stepWhole_L5 n tp K f1 o c = K o' c ∧ fX10_next_L152 n mt K2 f2 (nI b) (nI z) om = K2 (nI b') (nI z') om' := by
  intro j
  induction j with
  | zero =>
    intro b z f1 f2 o om hb hf1 hf2 hz h7 h4 h3 hc
    obtain ⟨u1, rfl⟩ : ∃ u, f1 = u + 1 := ⟨f1 - 1, by omega⟩
    obtain ⟨u2, rfl⟩ : ∃ u, f2 = u + 1 := ⟨f2 - 1, by omega⟩
    have e : b = L := by omega
    subst e
    exact ⟨b, z, o, om, Nat.le_refl _, Nat.le_refl _, rfl, fun _ q => by omega, h7, fun _ _ _ => rfl, fun _ _ => rfl, hc, by rw [fX5_stepWhole_L5, h4, h7, if_pos (Int32.le_refl _)], by rw [fX10_next_L152, look_end hL h3, ob1_ss, show fX10_isDigit n (-1) = some 0 from rfl, ob1_ss, if_pos i00]⟩
  | succ j ih =>
    intro b z f1 f2 o om hb hf1 hf2 hz h7 h4 h3 hc
    obtain ⟨u1, rfl⟩ : ∃ u, f1 = u + 1 := ⟨f1 - 1, by omega⟩
    obtain ⟨u2, rfl⟩ : ∃ u, f2 = u + 1 := ⟨f2 - 1, by omega⟩
    rw [fX5_stepWhole_L5, h4, h7, if_neg (nI_ge (by omega) (by omega)), if_neg (ckI (by omega) (by omega)), clI (by omega), fX10_next_L152, look_in hL (by omega) h3, ob1_ss, ← ht b (by omega), sI, sI]
    rcases digit_c n (tp b) with ⟨q, q1, q2, q3, q4⟩ | ⟨q1, q2⟩
    · rw [q4, ob1_ss, if_neg i10, if_neg (show ¬ tp b < 48 by rw [q3]; exact nI_nlt (b := 48) q1 (by omega)), if_neg (ckK (by omega) (by omega)), if_neg (show ¬ 57 < tp b by rw [q3]; exact nI_nlt (a := 57) q2 (by omega)), if_neg (ckK (by omega) (by omega))]
      by_cases h9 : z < 3
      · rw [if_neg (show ¬ (3 : Int32) ≤ nI z from nI_ge (b := 3) (by omega) (by omega)), ob1_ss]
        obtain ⟨b', z', o', om', t1, t2, t3, t4, t5, t6, t7, t8, t9, t10⟩ := ih (b + 1) (z + 1) u1 u2 (upd (upd o 8 (((10 : Int32) * o 8 + tp b) - 48)) 7 (nI (b + 1))) (upd om 7 (((10 : Int32) * om 7 + tp b) - 48)) (by omega) (by omega) (by omega) (by omega) (upd_s _ _ _) (by rw [upd_n _ _ (by decide), upd_n _ _ (by decide)]; exact h4) (by rw [upd_n _ _ (by decide)]; exact h3) (fun _ => by rw [upd_n _ _ (by decide), upd_s, upd_s, hc (by omega)])
        exact ⟨b', z', o', om', by omega, t2, by omega, fun _ _ => by omega, t5, fun k h1 h2 => (t6 k h1 h2).trans ((upd_n _ _ h1).trans (upd_n _ _ h2)), fun k hk => (t7 k hk).trans (upd_n _ _ hk), t8, t9, t10⟩
      · rw [if_pos (show (3 : Int32) ≤ nI z from nI_le (a := 3) (by omega) (by omega))]
        obtain ⟨b', z', o', om', t1, t2, t3, t4, t5, t6, t7, t8, t9, t10⟩ := ih (b + 1) (z + 1) u1 u2 (upd (upd o 8 (((10 : Int32) * o 8 + tp b) - 48)) 7 (nI (b + 1))) om (by omega) (by omega) (by omega) (by omega) (upd_s _ _ _) (by rw [upd_n _ _ (by decide), upd_n _ _ (by decide)]; exact h4) h3 (fun q => by omega)
        exact ⟨b', z', o', om', by omega, t2, by omega, fun _ _ => by omega, t5, fun k h1 h2 => (t6 k h1 h2).trans ((upd_n _ _ h1).trans (upd_n _ _ h2)), t7, t8, t9, t10⟩
    · rw [q2, ob1_ss, if_pos i00]
      refine ⟨b, z, o, om, Nat.le_refl _, by omega, rfl, fun ⟨q, r1, r2, r3⟩ _ => ?_, h7, fun _ _ _ => rfl, fun _ _ => rfl, hc, ?_, rfl⟩
      · rcases q1 with z1 | ⟨z1, z2⟩
        · rw [r3] at z1; exact absurd z1 (nI_nlt (b := 48) r1 (by omega))
        · rw [r3] at z2; exact absurd z2 (nI_nlt (a := 57) r2 (by omega))
      · rcases q1 with z1 | ⟨z1, z2⟩
        · rw [if_pos z1]
        · rw [if_neg z1, if_neg (ckK (by omega) (by omega)), if_pos z2]
