/-! names, as both keep them -/
def usd (G T N s : Nat) : Prop := s < G ∨ (7 ≤ s ∧ s < 7 + T) ∨ (11 ≤ s ∧ s < 11 + N)
def cdS (fr : Nat → Int32) (s : Nat) : Nat := PKf fr (138 + 8 * s) (fr (122 + s)).toNatClampNeg
def slL (s : Nat) : Int32 := if s < 7 then 1 else if s < 11 then 4 else 5
def slN (s : Nat) : Int32 := if s < 7 then nI s else if s < 11 then nI (s - 7) else nI (s - 11)
def NAM (G T N : Nat) (Y : Nat → Int64) (f13 f14 fr : Nat → Int32) : Prop := G ≤ 7 ∧ T ≤ 4 ∧ N ≤ 5 ∧
  (∀ s, s < 16 → usd G T N s → (∃ z, 1 ≤ z ∧ z ≤ 8 ∧ fr (122 + s) = nI z ∧ LET fr (138 + 8 * s) z) ∧ ∃ i, i < G + T + N ∧ Y i = lN (cdS fr s) ∧ f13 i = slL s ∧ f14 i = slN s) ∧
  (∀ s, s < 16 → ¬ usd G T N s → fr (122 + s) = 0) ∧
  (∀ i, i < G + T + N → ∃ s, s < 16 ∧ usd G T N s ∧ Y i = lN (cdS fr s) ∧ f13 i = slL s ∧ f14 i = slN s) ∧
  (∀ s s', s < 16 → s' < 16 → usd G T N s → usd G T N s' → cdS fr s = cdS fr s' → s = s')
theorem cdS_z {fr : Nat → Int32} {s z : Nat} (hz : z ≤ 8) (h : fr (122 + s) = nI z) : cdS fr s = PKf fr (138 + 8 * s) z := by rw [cdS, h, clI (by omega)]
theorem NAM.lt {G T N s : Nat} {Y : Nat → Int64} {f13 f14 fr : Nat → Int32} (h : NAM G T N Y f13 f14 fr) (hs : s < 16) (hu : usd G T N s) : cdS fr s < 2 ^ 64 := by
  obtain ⟨⟨z, z1, z2, z3, z4⟩, -⟩ := h.2.2.2.1 s hs hu
  rw [cdS_z z2 z3]; exact PKf.lt64 z4 z2
theorem idxL {s k : Nat} : (((138 : Int32) + ((8 : Int32) * nI s)) + nI k) = nI (138 + 8 * s + k) := by
  rw [show (138 : Int32) = nI 138 from rfl, show (8 : Int32) = nI 8 from rfl, mulI, addI, addI]
theorem cmp44 {n z s : Nat} (hz : z ≤ 8) (hs : s < 16) {om lt fr : Nat → Int32} (h8 : om 8 = nI z) (K : Int32 → Option Int32) :
    ∀ (j k f : Nat), k + j = z → j + 1 < f → (∀ t, t < k → fr (138 + 8 * s + t) = lt t) → ∃ v : Int32, (v = 0 ∨ v = 1) ∧ fX10_find_L44 n (nI s) om lt fr K f 1 (nI k) = K v ∧ (v = 1 ↔ ∀ t, t < z → fr (138 + 8 * s + t) = lt t) := by
  intro j
  induction j with
  | zero =>
    intro k f hk hf h
    obtain ⟨u, rfl⟩ : ∃ u, f = u + 1 := ⟨f - 1, by omega⟩
    have e : k = z := by omega
    subst e
    exact ⟨1, Or.inr rfl, by rw [fX10_find_L44, h8, if_pos (Int32.le_refl _)], ⟨fun _ => h, fun _ => rfl⟩⟩
  | succ j ih =>
    intro k f hk hf h
    obtain ⟨u, rfl⟩ : ∃ u, f = u + 2 := ⟨f - 2, by omega⟩
    rw [fX10_find_L44, h8, if_neg (nI_ge (by omega) (by omega)), if_neg i10, idxL, if_neg (ckI (k := 138 + 8 * s + k) (by omega) (by omega)), clI (k := 138 + 8 * s + k) (by omega), if_neg (ckI (k := k) (by omega) (by omega)), clI (k := k) (by omega), sI]
    by_cases q : fr (138 + 8 * s + k) = lt k
    · rw [if_pos q]
      exact ih (k + 1) (u + 1) (by omega) (by omega) (fun t ht => by
        by_cases e : t = k
        · subst e; exact q
        · exact h t (by omega))
    · rw [if_neg q]
      refine ⟨0, Or.inl rfl, ?_, ⟨fun z => absurd z (by decide), fun z => absurd (z k (by omega)) q⟩⟩
      rw [fX10_find_L44, h8]
      by_cases q2 : nI z ≤ nI (k + 1)
      · rw [if_pos q2]
      · rw [if_neg q2, if_pos i00]
theorem cmp44z {n s : Nat} {om lt fr : Nat → Int32} (K : Int32 → Option Int32) (f : Nat) (x : Int32) : fX10_find_L44 n (nI s) om lt fr K (f + 1) 0 x = K 0 := by
  rw [fX10_find_L44]
  by_cases q2 : om 8 ≤ x
  · rw [if_pos q2]
  · rw [if_neg q2, if_pos i00]
theorem findS {n G T N z : Nat} (hn : 100 ≤ n) {Y : Nat → Int64} {f13 f14 fr om lt : Nat → Int32} (hM : NAM G T N Y f13 f14 fr) (hz1 : 1 ≤ z) (hz : z ≤ 8) (h8 : om 8 = nI z) (hl : LET lt 0 z) :
    (∃ s, s < 16 ∧ usd G T N s ∧ cdS fr s = PKf lt 0 z ∧ fX10_find n om lt fr = some (nI s)) ∨ ((∀ s, s < 16 → usd G T N s → cdS fr s ≠ PKf lt 0 z) ∧ fX10_find n om lt fr = some (-1)) := by
  have l16 : (16 : Int32) = nI 16 := rfl
  have l122 : (122 : Int32) = nI 122 := rfl
  have loop : ∀ (j k f : Nat), k + j = 16 → j < f → (∀ s, s < k → usd G T N s → cdS fr s ≠ PKf lt 0 z) → (∃ s, s < 16 ∧ usd G T N s ∧ cdS fr s = PKf lt 0 z ∧ fX10_find_L2 n om lt fr (fun _ => some (-1)) f (nI k) = some (nI s)) ∨ ((∀ s, s < 16 → usd G T N s → cdS fr s ≠ PKf lt 0 z) ∧ fX10_find_L2 n om lt fr (fun _ => some (-1)) f (nI k) = some (-1)) := by
    intro j
    induction j with
    | zero =>
      intro k f hk hf h
      obtain ⟨u, rfl⟩ : ∃ u, f = u + 1 := ⟨f - 1, by omega⟩
      exact Or.inr ⟨fun s hs => h s (by omega), by rw [fX10_find_L2, l16, if_pos (nI_le (by omega) (by omega))]⟩
    | succ j ih =>
      intro k f hk hf h
      obtain ⟨u, rfl⟩ : ∃ u, f = u + 1 := ⟨f - 1, by omega⟩
      obtain ⟨m, em⟩ : ∃ m, n = m + 1 := ⟨n - 1, by omega⟩
      rw [fX10_find_L2, l16, if_neg (nI_ge (by omega) (by omega)), l122, addI, if_neg (ckI (by omega) (by omega)), clI (by omega), if_neg (ckK (by omega) (by omega)), sI]
      have nx : (cdS fr k ≠ PKf lt 0 z ∨ ¬ usd G T N k) → (∃ s, s < 16 ∧ usd G T N s ∧ cdS fr s = PKf lt 0 z ∧ fX10_find_L2 n om lt fr (fun _ => some (-1)) u (nI (k + 1)) = some (nI s)) ∨ ((∀ s, s < 16 → usd G T N s → cdS fr s ≠ PKf lt 0 z) ∧ fX10_find_L2 n om lt fr (fun _ => some (-1)) u (nI (k + 1)) = some (-1)) := fun hno => ih (k + 1) u (by omega) (by omega) (fun s hs hu => by
        by_cases e : s = k
        · subst e; exact hno.elim id (fun q => absurd hu q)
        · exact h s (by omega) hu)
      have zero : ∀ (KK : Int32 → Option Int32), fX10_find_L44 n (nI k) om lt fr KK n 0 0 = KK 0 := fun KK => by rw [show fX10_find_L44 n (nI k) om lt fr KK n 0 0 = fX10_find_L44 n (nI k) om lt fr KK (m + 1) 0 0 by rw [← em], cmp44z]
      by_cases hu : usd G T N k
      · obtain ⟨⟨y, y1, y2, y3, y4⟩, -⟩ := hM.2.2.2.1 k (by omega) hu
        rw [y3, if_neg (show ¬ nI y ≤ 0 from nI_ge (a := 0) (by omega) (by omega))]
        by_cases e : y = z
        · subst e
          rw [h8, if_pos rfl]
          obtain ⟨v, v1, v2, v3⟩ := cmp44 (n := n) (lt := lt) (fr := fr) hz (show k < 16 by omega) h8 (fun x2 => if x2 = 0 then fX10_find_L2 n om lt fr (fun _ => some (-1)) u (nI (k + 1)) else some (nI k)) y 0 n (by omega) (by omega) (fun t ht => absurd ht (Nat.not_lt_zero t))
          rw [show fX10_find_L44 n (nI k) om lt fr (fun x2 => if x2 = 0 then fX10_find_L2 n om lt fr (fun _ => some (-1)) u (nI (k + 1)) else some (nI k)) n 1 0 = _ from v2]
          have ecd : cdS fr k = PKf lt 0 y ↔ ∀ t, t < y → fr (138 + 8 * k + t) = lt t := by
            rw [cdS_z y2 y3]
            exact ⟨fun q t ht => by
              have := (PKf.inj y4 hl q).2 t ht
              rw [Nat.zero_add] at this
              exact this, fun q => PKf.cg (fun t ht => by rw [Nat.zero_add]; exact q t ht)⟩
          rcases v1 with rfl | rfl
          · rw [if_pos i00]
            exact nx (Or.inl (fun q => absurd (v3.mpr (ecd.mp q)) (by decide)))
          · rw [if_neg i10]
            exact Or.inl ⟨k, by omega, hu, ecd.mpr (v3.mp rfl), rfl⟩
        · rw [if_neg (fun q => e (nI_inj (by omega) (by omega) (q.trans h8))), zero, if_pos i00]
          refine nx (Or.inl (fun q => e ?_))
          rw [cdS_z y2 y3] at q
          exact (PKf.inj y4 hl q).1
      · rw [hM.2.2.2.2.1 k (by omega) hu, if_pos (Int32.le_refl _), zero, if_pos i00]
        exact nx (Or.inr hu)
  rw [fX10_find]
  exact loop 16 0 n (by omega) (by omega) (fun s hs => absurd hs (Nat.not_lt_zero s))
theorem idxS {n nm : Nat} (hn : 100 ≤ n) (hm : nm ≤ 16) {o : Nat → Int32} (h11 : o 11 = nI nm) (c : Int64) (Y : Nat → Int64) : (∃ i, i < nm ∧ Y i = c ∧ fX5_nameIndex n o c Y = some (nI i)) ∨ ((∀ i, i < nm → Y i ≠ c) ∧ fX5_nameIndex n o c Y = some (-1)) := by
  have loop : ∀ (j k f : Nat), k + j = nm → j < f → (∀ i, i < k → Y i ≠ c) → (∃ i, i < nm ∧ Y i = c ∧ fX5_nameIndex_L2 n o c Y (fun _ => some (-1)) f (nI k) = some (nI i)) ∨ ((∀ i, i < nm → Y i ≠ c) ∧ fX5_nameIndex_L2 n o c Y (fun _ => some (-1)) f (nI k) = some (-1)) := by
    intro j
    induction j with
    | zero =>
      intro k f hk hf h
      obtain ⟨u, rfl⟩ : ∃ u, f = u + 1 := ⟨f - 1, by omega⟩
      exact Or.inr ⟨fun i hi => h i (by omega), by rw [fX5_nameIndex_L2, h11, if_pos (nI_le (by omega) (by omega))]⟩
    | succ j ih =>
      intro k f hk hf h
      obtain ⟨u, rfl⟩ : ∃ u, f = u + 1 := ⟨f - 1, by omega⟩
      rw [fX5_nameIndex_L2, h11, if_neg (nI_ge (by omega) (by omega)), if_neg (ckI (by omega) (by omega)), clI (by omega), sI]
      by_cases q : Y k = c
      · rw [if_pos ((lg_cmp_eq _ _).mpr q)]
        exact Or.inl ⟨k, by omega, q, rfl⟩
      · rw [if_neg (fun z => q ((lg_cmp_eq _ _).mp z))]
        exact ih (k + 1) u (by omega) (by omega) (fun i hi => by
          by_cases e : i = k
          · subst e; exact q
          · exact h i (by omega))
  rw [fX5_nameIndex]
  exact loop nm 0 n (by omega) (by omega) (fun i hi => absurd hi (Nat.not_lt_zero i))
/-- where a name stands, by both -/
theorem name_lock {n G T N z : Nat} (hn : 100 ≤ n) {Y : Nat → Int64} {f13 f14 fr o om lt : Nat → Int32} (hM : NAM G T N Y f13 f14 fr) (h11 : o 11 = nI (G + T + N)) (hz1 : 1 ≤ z) (hz : z ≤ 8) (h8 : om 8 = nI z) (hl : LET lt 0 z) :
    (∃ s i, s < 16 ∧ usd G T N s ∧ i < G + T + N ∧ fX10_find n om lt fr = some (nI s) ∧ fX5_nameIndex n o (lN (PKf lt 0 z)) Y = some (nI i) ∧ f13 i = slL s ∧ f14 i = slN s) ∨ ((∀ s, s < 16 → usd G T N s → cdS fr s ≠ PKf lt 0 z) ∧ fX10_find n om lt fr = some (-1) ∧ fX5_nameIndex n o (lN (PKf lt 0 z)) Y = some (-1)) := by
  have h64 := PKf.lt64 hl hz
  have hb : G + T + N ≤ 16 := by have := hM.1; have := hM.2.1; have := hM.2.2.1; omega
  rcases findS hn hM hz1 hz h8 hl with ⟨s, s1, s2, s3, s4⟩ | ⟨s1, s2⟩
  · rcases idxS hn hb h11 (lN (PKf lt 0 z)) Y with ⟨i, i1, i2, i3⟩ | ⟨i1, -⟩
    · obtain ⟨s', t1, t2, t3, t4, t5⟩ := hM.2.2.2.2.2.1 i i1
      have e : s' = s := hM.2.2.2.2.2.2 s' s t1 s1 t2 s2 (by rw [s3]; exact lN_inj64 (hM.lt t1 t2) h64 (t3.symm.trans i2))
      subst e
      exact Or.inl ⟨s', i, s1, s2, i1, s4, i3, t4, t5⟩
    · obtain ⟨-, i, t1, t2, -⟩ := hM.2.2.2.1 s s1 s2
      exact absurd (by rw [t2, s3]) (i1 i t1)
  · rcases idxS hn hb h11 (lN (PKf lt 0 z)) Y with ⟨i, i1, i2, i3⟩ | ⟨-, i2⟩
    · obtain ⟨s', t1, t2, t3, -⟩ := hM.2.2.2.2.2.1 i i1
      exact absurd (lN_inj64 (hM.lt t1 t2) h64 (t3.symm.trans i2)) (s1 s' t1 t2)
    · exact Or.inr ⟨s1, s2, i2⟩

/-- may it be a name -/
theorem must_lock {n L p : Nat} (hn : 1000 ≤ n) {o om lt : Nat → Int32} {c : Int64} (hl : LIVE o om) (hT : TOKR L p o c om lt) :
    (fX5_isName n o c = some 1 ∧ fX10_mustName n om lt = some om ∧ o 5 = 1 ∧ om 6 = 2 ∧ ∃ z, 1 ≤ z ∧ z ≤ 8 ∧ om 8 = nI z ∧ LET lt 0 z ∧ c = lN (PKf lt 0 z)) ∨ (fX5_isName n o c = some 0 ∧ fX10_mustName n om lt = some (upd (upd (upd om 13 1) 9 1) 10 (om 4))) := by
  have h13 := hl.1
  obtain ⟨h4, h3, a, b, h5, h6, h7, h8, h9, h10, h11, h12⟩ := hT
  have other : ¬ o 5 = 1 → ¬ om 6 = 2 → fX5_isName n o c = some 0 ∧ fX10_mustName n om lt = some (upd (upd (upd om 13 1) 9 1) 10 (om 4)) := fun z1 z2 => ⟨by rw [fX5_isName, if_neg z1], by rw [fX10_mustName, if_neg z2, wrong_l h13, ob1_ss]⟩
  rcases h12 with ⟨z, z'⟩ | ⟨-, ⟨z1, z2, z, z3, z4, z5, z6, z7⟩ | ⟨z, z', -⟩ | ⟨z, z'⟩ | ⟨z, z'⟩⟩
  · exact Or.inr (other (by rw [z]; decide) (by rw [z']; decide))
  · have iw : ∀ i, i < 22 → fX10_isWord n i om lt = some (if PKf lt 0 z = Wc i then 1 else 0) := fun i hi => isWordS (by omega) hi z4 h13 z2 z5 z6
    have h64 := PKf.lt64 z6 z4
    have ln : fX5_lineOfWord n o c = some (lw (PKf lt 0 z)) := by rw [z7]; exact lwS h64 z1
    rw [fX5_isName, if_pos z1, ln, ob1_ss, fX10_mustName, if_pos z2, lw]
    by_cases h0_ : PKf lt 0 z = Wc 0
    · rw [if_pos h0_, if_neg (by decide), iw 0 (by omega), if_pos h0_, ob1_ss, if_neg i10, wrong_l h13, ob1_ss]
      exact Or.inr ⟨rfl, rfl⟩
    · rw [if_neg h0_, iw 0 (by omega), if_neg h0_, ob1_ss, if_pos i00]
      by_cases h1_ : PKf lt 0 z = Wc 1
      · rw [if_pos h1_, if_neg (by decide), iw 1 (by omega), if_pos h1_, ob1_ss, if_neg i10, wrong_l h13, ob1_ss]
        exact Or.inr ⟨rfl, rfl⟩
      · rw [if_neg h1_, iw 1 (by omega), if_neg h1_, ob1_ss, if_pos i00]
        by_cases h2_ : PKf lt 0 z = Wc 2
        · rw [if_pos h2_, if_neg (by decide), iw 2 (by omega), if_pos h2_, ob1_ss, if_neg i10, wrong_l h13, ob1_ss]
          exact Or.inr ⟨rfl, rfl⟩
        · rw [if_neg h2_, iw 2 (by omega), if_neg h2_, ob1_ss, if_pos i00]
          by_cases h3_ : PKf lt 0 z = Wc 3
          · rw [if_pos h3_, if_neg (by decide), iw 3 (by omega), if_pos h3_, ob1_ss, if_neg i10, wrong_l h13, ob1_ss]
            exact Or.inr ⟨rfl, rfl⟩
          · rw [if_neg h3_, iw 3 (by omega), if_neg h3_, ob1_ss, if_pos i00]
            by_cases h4_ : PKf lt 0 z = Wc 4
            · rw [if_pos h4_, if_neg (by decide), iw 4 (by omega), if_pos h4_, ob1_ss, if_neg i10, wrong_l h13, ob1_ss]
              exact Or.inr ⟨rfl, rfl⟩
            · rw [if_neg h4_, iw 4 (by omega), if_neg h4_, ob1_ss, if_pos i00]
              by_cases h5_ : PKf lt 0 z = Wc 5
              · rw [if_pos h5_, if_neg (by decide), iw 5 (by omega), if_pos h5_, ob1_ss, if_neg i10, wrong_l h13, ob1_ss]
                exact Or.inr ⟨rfl, rfl⟩
              · rw [if_neg h5_, iw 5 (by omega), if_neg h5_, ob1_ss, if_pos i00]
                by_cases h6_ : PKf lt 0 z = Wc 6
                · rw [if_pos h6_, if_neg (by decide), iw 6 (by omega), if_pos h6_, ob1_ss, if_neg i10, wrong_l h13, ob1_ss]
                  exact Or.inr ⟨rfl, rfl⟩
                · rw [if_neg h6_, iw 6 (by omega), if_neg h6_, ob1_ss, if_pos i00]
                  by_cases h7_ : PKf lt 0 z = Wc 7
                  · rw [if_pos h7_, if_neg (by decide), iw 7 (by omega), if_pos h7_, ob1_ss, if_neg i10, wrong_l h13, ob1_ss]
                    exact Or.inr ⟨rfl, rfl⟩
                  · rw [if_neg h7_, iw 7 (by omega), if_neg h7_, ob1_ss, if_pos i00]
                    rw [if_pos rfl]
                    exact Or.inl ⟨rfl, rfl, z1, z2, z, z3, z4, z5, z6, z7⟩
  · exact Or.inr (other (by rw [z]; decide) (by rw [z']; decide))
  · exact Or.inr (other (by rw [z]; decide) (by rw [z']; decide))
  · exact Or.inr (other (by rw [z]; decide) (by rw [z']; decide))

theorem name_some (n : Nat) (o : Nat → Int32) (c : Int64) : ∃ v, fX5_isName n o c = some v := by
  rw [fX5_isName]
  by_cases h : o 5 = 1
  · rw [if_pos h]
    have hc : c = lN c.toBitVec.toNat := wb_inj (by rw [wb_tb]; simp)
    have hb : c.toBitVec.toNat < 2 ^ 64 := c.toBitVec.isLt
    rw [hc, lwS hb h, ob1_ss]
    by_cases q : lw c.toBitVec.toNat = -1
    · rw [if_pos q]; exact ⟨_, rfl⟩
    · rw [if_neg q]; exact ⟨_, rfl⟩
  · rw [if_neg h]; exact ⟨_, rfl⟩
theorem kind_some (n : Nat) (o : Nat → Int32) (c : Int64) : ∃ v, fX5_kindOfWord n o c = some v := by
  by_cases h : o 5 = 1
  · have hc : c = lN c.toBitVec.toNat := wb_inj (by rw [wb_tb]; simp)
    have hb : c.toBitVec.toNat < 2 ^ 64 := c.toBitVec.isLt
    rw [hc]; exact ⟨_, kwS hb h⟩
  · exact ⟨_, kw_n h⟩
theorem kind_d {n : Nat} {o tp : Nat → Int32} {c : Int64} (h : ¬ o 2 = 0) : fX5_takeKind n o c tp = some (-1, o, c) := by
  obtain ⟨v, hv⟩ := kind_some n o c
  rw [fX5_takeKind, hv, ob1_ss]
  simp only [fail_d h, taken_d h, ob3_ss, ite_self]
theorem newname_d {n nm : Nat} (hn : 100 ≤ n) (hm : nm ≤ 16) {x1 x2 : Int32} {o tp f13 f14 : Nat → Int32} {c : Int64} {Y : Nat → Int64} (h11 : o 11 = nI nm) (h : ¬ o 2 = 0) : fX5_takeNewName n x1 x2 o c tp Y f13 f14 = some (o, c, Y, f13, f14) := by
  obtain ⟨v, hv⟩ := name_some n o c
  have hi : ∃ w, fX5_nameIndex n o c Y = some w := by
    rcases idxS hn hm h11 c Y with ⟨i, -, -, e⟩ | ⟨-, e⟩
    · exact ⟨_, e⟩
    · exact ⟨_, e⟩
  obtain ⟨w, hw⟩ := hi
  rw [fX5_takeNewName, hv, ob1_ss]
  simp only [jn, fail_d h, ob3_ss, hw, ob1_ss, failed_d h, if_neg i10, ite_self]
theorem known_d {n nm : Nat} (hn : 100 ≤ n) (hm : nm ≤ 16) {o f13 f14 : Nat → Int32} {c : Int64} {Y : Nat → Int64} (h11 : o 11 = nI nm) (h : ¬ o 2 = 0) : fX5_knownGuest n o c Y f13 f14 = some (-1, o, c) := by
  obtain ⟨v, hv⟩ := name_some n o c
  rw [fX5_knownGuest, hv, ob1_ss]
  by_cases q : v = 0
  · rw [if_pos q, fail_d h, ob3_ss]
  · rw [if_neg q]
    rcases idxS hn hm h11 c Y with ⟨i, hi, -, e⟩ | ⟨-, e⟩
    · rw [e, ob1_ss, if_neg (nI_pos (by omega)), if_neg (ckI (by omega) (by omega)), clI (by omega)]
      by_cases q2 : f13 i = 1
      · rw [if_pos q2, failed_d h, ob1_ss, if_neg i10]
      · rw [if_neg q2, fail_d h, ob3_ss]
    · rw [e, ob1_ss, if_pos (by decide), fail_d h, ob3_ss]
/-- a guest that is known, not taken yet -/
theorem known_lock {n L p G T N : Nat} (hn : 1000 ≤ n) {Y : Nat → Int64} {f13 f14 fr o om lt : Nat → Int32} {c : Int64} (hM : NAM G T N Y f13 f14 fr) (h11 : o 11 = nI (G + T + N)) (hS : ST L p o c om lt) :
    ∃ v v2 o' om', fX5_knownGuest n o c Y f13 f14 = some (v, o', c) ∧ fX10_guestHere n om lt fr = some (v2, om') ∧ FO o o' ∧ FM om om' ∧ ((om' = om ∧ o' = o ∧ LIVE o om ∧ TOKR L p o c om lt ∧ ∃ g, g < G ∧ v = nI g ∧ v2 = nI g) ∨ (DEAD o' om' ∧ v = -1)) := by
  have hb : G + T + N ≤ 16 := by have := hM.1; have := hM.2.1; have := hM.2.2.1; omega
  have hG := hM.1
  rcases hS with ⟨hl, hT⟩ | hd
  · have h13 := hl.1
    have dead : ∀ x : Int32, ¬ x = 0 → fX5_knownGuest n o c Y f13 f14 = some (-1, upd (upd o 2 x) 3 (o 6), c) → fX10_guestHere n om lt fr = some (0, upd (upd (upd om 13 1) 9 x) 10 (om 4)) → ∃ v v2 o' om', fX5_knownGuest n o c Y f13 f14 = some (v, o', c) ∧ fX10_guestHere n om lt fr = some (v2, om') ∧ FO o o' ∧ FM om om' ∧ ((om' = om ∧ o' = o ∧ LIVE o om ∧ TOKR L p o c om lt ∧ ∃ g, g < G ∧ v = nI g ∧ v2 = nI g) ∨ (DEAD o' om' ∧ v = -1)) := fun x hx e1 e2 => by
      obtain ⟨d1, d2, d3⟩ := die hx hT.at
      exact ⟨_, _, _, _, e1, e2, d2, d3, Or.inr ⟨d1, rfl⟩⟩
    rcases must_lock hn hl hT with ⟨a1, a2, a3, a4, z, z1, z2, z3, z4, z5⟩ | ⟨a1, a2⟩
    · rcases name_lock (n := n) (by omega) hM h11 z1 z2 z3 z4 with ⟨s, i, s1, s2, i1, e1, e2, e3, e4⟩ | ⟨s1, e1, e2⟩
      · rw [← z5] at e2
        by_cases h7 : s < 7
        · have hg : s < G := by rcases s2 with q | ⟨q, -⟩ | ⟨q, -⟩ <;> omega
          refine ⟨nI s, nI s, o, om, ?_, ?_, FO.refl _, FM.refl _, Or.inl ⟨rfl, rfl, hl, hT, s, hg, rfl, rfl⟩⟩
          · rw [fX5_knownGuest, a1, ob1_ss, if_neg i10, e2, ob1_ss, if_neg (nI_pos (by omega)), if_neg (ckI (by omega) (by omega)), clI (by omega), e3, slL, if_pos h7, if_pos rfl, failed_l hl.2.1, ob1_ss, if_pos i00, if_neg (ckK (by omega) (by omega)), e4, slN, if_pos h7]
          · rw [fX10_guestHere, if_pos h13, a2, ob1_ss, if_pos h13, e1, ob1_ss, show fX10_in n (nI s) 0 6 = some 1 from in_y (v := 7) (by omega) h7, ob1_ss, if_neg i10, if_pos h13]
        · refine dead 2 (by decide) ?_ ?_
          · have hne : ¬ f13 i = 1 := by
              rw [e3, slL, if_neg h7]
              by_cases q : s < 11
              · rw [if_pos q]; decide
              · rw [if_neg q]; decide
            rw [fX5_knownGuest, a1, ob1_ss, if_neg i10, e2, ob1_ss, if_neg (nI_pos (by omega)), if_neg (ckI (by omega) (by omega)), clI (by omega), if_neg hne, fail_l hl.2.1, ob3_ss]
          · rw [fX10_guestHere, if_pos h13, a2, ob1_ss, if_pos h13, e1, ob1_ss, show fX10_in n (nI s) 0 6 = some 0 from in_n (v := 7) (by omega) (Or.inr ⟨nI_pos (by omega), nI_le (by omega) (by omega)⟩), ob1_ss, if_pos i00, wrong_l h13, ob1_ss, if_neg (show ¬ upd (upd (upd om 13 1) 9 2) 10 (om 4) 13 = 0 from i10)]
      · rw [← z5] at e2
        refine dead 2 (by decide) ?_ ?_
        · rw [fX5_knownGuest, a1, ob1_ss, if_neg i10, e2, ob1_ss, if_pos (by decide), fail_l hl.2.1, ob3_ss]
        · rw [fX10_guestHere, if_pos h13, a2, ob1_ss, if_pos h13, e1, ob1_ss, show fX10_in n (-1) 0 6 = some 0 from rfl, ob1_ss, if_pos i00, wrong_l h13, ob1_ss, if_neg (show ¬ upd (upd (upd om 13 1) 9 2) 10 (om 4) 13 = 0 from i10)]
    · refine dead 1 (by decide) ?_ ?_
      · rw [fX5_knownGuest, a1, ob1_ss, if_pos i00, fail_l hl.2.1, ob3_ss]
      · rw [fX10_guestHere, if_pos h13, a2, ob1_ss, if_neg (show ¬ upd (upd (upd om 13 1) 9 1) 10 (om 4) 13 = 0 from i10)]
  · exact ⟨-1, 0, o, om, known_d (by omega) hb h11 hd.2.1, by rw [fX10_guestHere, if_neg (by rw [hd.1]; decide)], FO.refl _, FM.refl _, Or.inr ⟨hd, rfl⟩⟩
/-- a new name in slot s -/
theorem letters_loop {n z s : Nat} (hz : z ≤ 8) (hs : s < 16) {om lt : Nat → Int32} (h8 : om 8 = nI z) (K : (Nat → Int32) → Option ((Nat → Int32) × (Nat → Int32) × (Nat → Int32))) (fr0 : Nat → Int32) :
    ∀ (j k f : Nat) (fr : Nat → Int32), k + j = z → j < f → (∀ t, t < k → fr (138 + 8 * s + t) = lt t) → (∀ i, i < 138 + 8 * s ∨ 138 + 8 * s + 8 ≤ i → fr i = fr0 i) → ∃ fr', (∀ t, t < z → fr' (138 + 8 * s + t) = lt t) ∧ (∀ i, i < 138 + 8 * s ∨ 138 + 8 * s + 8 ≤ i → fr' i = fr0 i) ∧ fX10_newName_L45 n (nI s) om lt K f (nI k) fr = K fr' := by
  intro j
  induction j with
  | zero =>
    intro k f fr hk hf h1 h2
    obtain ⟨u, rfl⟩ : ∃ u, f = u + 1 := ⟨f - 1, by omega⟩
    have e : k = z := by omega
    subst e
    exact ⟨fr, h1, h2, by rw [fX10_newName_L45, h8, if_pos (Int32.le_refl _)]⟩
  | succ j ih =>
    intro k f fr hk hf h1 h2
    obtain ⟨u, rfl⟩ : ∃ u, f = u + 1 := ⟨f - 1, by omega⟩
    rw [fX10_newName_L45, h8, if_neg (nI_ge (by omega) (by omega)), if_neg (ckI (k := k) (by omega) (by omega)), clI (k := k) (by omega), idxL, if_neg (ckI (k := 138 + 8 * s + k) (by omega) (by omega)), clI (k := 138 + 8 * s + k) (by omega), sI]
    refine ih (k + 1) u _ (by omega) (by omega) (fun t ht => ?_) (fun i hi => ?_)
    · by_cases e : t = k
      · subst e; rw [upd_s]
      · rw [upd_n _ _ (by omega)]; exact h1 t (by omega)
    · rw [upd_n _ _ (by omega)]; exact h2 i hi
theorem newname_lock {n L p G T N s : Nat} (hn : 1000 ≤ n) {tp mt : Nat → Int32} (ht : TAPE L tp mt) {Y : Nat → Int64} {f13 f14 fr o om lt : Nat → Int32} {c : Int64} (hM : NAM G T N Y f13 f14 fr) (h11 : o 11 = nI (G + T + N)) (hnm : G + T + N < 16) (hs : s < 16) (x1 x2 : Int32) (hS : ST L p o c om lt) :
    ∃ o' c' Y' g13 g14 om' lt' fr', fX5_takeNewName n x1 x2 o c tp Y f13 f14 = some (o', c', Y', g13, g14) ∧ fX10_newName n (nI s) om mt lt fr = some (om', lt', fr') ∧ ST L p o' c' om' lt' ∧ (∀ k, k ≠ 11 → k ≠ 2 → k ≠ 3 → k ≠ 5 → k ≠ 6 → k ≠ 7 → k ≠ 8 → o' k = o k) ∧ FM om om' ∧ (∃ q, q ≤ 16 ∧ o' 11 = nI q) ∧
      (om' 13 = 0 → om 13 = 0 ∧ o' 11 = nI (G + T + N + 1) ∧ ∃ z P, 1 ≤ z ∧ z ≤ 8 ∧ fr' (122 + s) = nI z ∧ LET fr' (138 + 8 * s) z ∧ PKf fr' (138 + 8 * s) z = P ∧ (∀ s', s' < 16 → usd G T N s' → cdS fr s' ≠ P) ∧ Y' = vp_updL Y (G + T + N) (lN P) ∧ g13 = upd f13 (G + T + N) x1 ∧ g14 = upd f14 (G + T + N) x2 ∧ ∀ i, i ≠ 122 + s → (i < 138 + 8 * s ∨ 138 + 8 * s + 8 ≤ i) → fr' i = fr i) := by
  have l122 : (122 : Int32) = nI 122 := rfl
  rcases hS with ⟨hl, hT⟩ | hd
  · have h13 := hl.1
    have dead : ∀ x : Int32, ¬ x = 0 → fX5_takeNewName n x1 x2 o c tp Y f13 f14 = some (upd (upd o 2 x) 3 (o 6), c, Y, f13, f14) → fX10_newName n (nI s) om mt lt fr = some (upd (upd (upd om 13 1) 9 x) 10 (om 4), lt, fr) → ∃ o' c' Y' g13 g14 om' lt' fr', fX5_takeNewName n x1 x2 o c tp Y f13 f14 = some (o', c', Y', g13, g14) ∧ fX10_newName n (nI s) om mt lt fr = some (om', lt', fr') ∧ ST L p o' c' om' lt' ∧ (∀ k, k ≠ 11 → k ≠ 2 → k ≠ 3 → k ≠ 5 → k ≠ 6 → k ≠ 7 → k ≠ 8 → o' k = o k) ∧ FM om om' ∧ (∃ q, q ≤ 16 ∧ o' 11 = nI q) ∧ (om' 13 = 0 → om 13 = 0 ∧ o' 11 = nI (G + T + N + 1) ∧ ∃ z P, 1 ≤ z ∧ z ≤ 8 ∧ fr' (122 + s) = nI z ∧ LET fr' (138 + 8 * s) z ∧ PKf fr' (138 + 8 * s) z = P ∧ (∀ s', s' < 16 → usd G T N s' → cdS fr s' ≠ P) ∧ Y' = vp_updL Y (G + T + N) (lN P) ∧ g13 = upd f13 (G + T + N) x1 ∧ g14 = upd f14 (G + T + N) x2 ∧ ∀ i, i ≠ 122 + s → (i < 138 + 8 * s ∨ 138 + 8 * s + 8 ≤ i) → fr' i = fr i) := fun x hx e1 e2 => by
      obtain ⟨d1, d2, d3⟩ := die hx hT.at
      exact ⟨_, _, _, _, _, _, lt, fr, e1, e2, Or.inr d1, fun k _ h1 h2 h3 h4 h5 h6 => d2 k h1 h2 h3 h4 h5 h6, d3, ⟨G + T + N, by omega, (d2 11 (by decide) (by decide) (by decide) (by decide) (by decide) (by decide)).trans h11⟩, fun q => absurd (d1.1.symm.trans q) (by decide)⟩
    have D1 : ∀ x : Int32, ¬ x = 0 → ¬ upd (upd o 2 x) 3 (o 6) 2 = 0 := fun x hx => hx
    rcases must_lock hn hl hT with ⟨a1, a2, a3, a4, z, z1, z2, z3, z4, z5⟩ | ⟨a1, a2⟩
    · rcases name_lock (n := n) (by omega) hM h11 z1 z2 z3 z4 with ⟨s', i, s1, s2, i1, e1, e2, e3, e4⟩ | ⟨s1, e1, e2⟩
      · rw [← z5] at e2
        refine dead 3 (by decide) ?_ ?_
        · rw [fX5_takeNewName, a1, ob1_ss]
          dsimp only [jn]
          rw [if_neg i10, e2, ob1_ss, if_neg (nI_pos (by omega)), fail_l hl.2.1, ob3_ss, failed_d (D1 3 (by decide)), ob1_ss, if_neg i10]
        · rw [fX10_newName, if_pos h13, a2, ob1_ss, if_pos h13, e1, ob1_ss, if_neg (nI_pos (by omega)), wrong_l h13, ob1_ss, if_neg (show ¬ upd (upd (upd om 13 1) 9 3) 10 (om 4) 13 = 0 from i10)]
      · rw [← z5] at e2
        obtain ⟨fr1, f1, f2, f3⟩ := letters_loop (n := n) (lt := lt) z2 hs z3 (fun fr1 => if (122 + nI s) < 0 ∨ 266 ≤ ((122 + nI s)).toNatClampNeg then none else ob2 (fX10_next n om mt lt) (fun u_18 u_19 => some (u_18, u_19, (upd fr1 ((122 + nI s)).toNatClampNeg (om 8))))) fr z 0 n fr (by omega) (by omega) (fun t ht => absurd ht (Nat.not_lt_zero t)) (fun _ _ => rfl)
        have hl1 : LIVE (upd o 11 (nI (G + T + N + 1))) om := ⟨h13, (upd_n _ _ (by decide)).trans hl.2.1, hl.2.2⟩
        have hT1 : TOKR L p (upd o 11 (nI (G + T + N + 1))) c om lt := hT
        obtain ⟨o1, c1, om1, lt1, -, t1, t2, t3, t4, t5, t6, -⟩ := take_lock hn ht hl1 hT1
        refine ⟨o1, c1, vp_updL Y (G + T + N) c, upd f13 (G + T + N) x1, upd f14 (G + T + N) x2, om1, lt1, upd fr1 (122 + s) (om 8), ?_, ?_, Or.inl ⟨t3, t4⟩, fun k h0 h1 h2 h3 h4 h5 h6 => (t5 k h1 h2 h3 h4 h5 h6).trans (upd_n _ _ h0), t6, ⟨G + T + N + 1, by omega, (t5 11 (by decide) (by decide) (by decide) (by decide) (by decide) (by decide)).trans (upd_s _ _ _)⟩, fun _ => ⟨h13, (t5 11 (by decide) (by decide) (by decide) (by decide) (by decide) (by decide)).trans (upd_s _ _ _), z, PKf lt 0 z, z1, z2, by rw [upd_s]; exact z3, ?_, ?_, s1, by rw [z5], rfl, rfl, fun i h1 h2 => by rw [upd_n _ _ h1]; exact f2 i h2⟩⟩
        · rw [fX5_takeNewName, a1, ob1_ss]
          dsimp only [jn]
          rw [if_neg i10, e2, ob1_ss, if_pos (by decide), failed_l hl.2.1, ob1_ss, if_pos i00, h11, if_pos (show nI (G + T + N) < 16 from nI_lt (b := 16) (by omega) (by omega)), if_neg (ckI (by omega) (by omega)), if_neg (ckI (by omega) (by omega)), if_neg (ckI (by omega) (by omega)), clI (by omega), sI, t1, ob2_ss]
        · rw [fX10_newName, if_pos h13, a2, ob1_ss, if_pos h13, e1, ob1_ss, if_pos (by decide), if_pos h13]
          refine (show _ = _ from f3).trans ?_
          rw [l122, addI, if_neg (ckI (by omega) (by omega)), clI (by omega), t2, ob2_ss]
        · intro i hi
          obtain ⟨d, d1, d2, d3⟩ := z4 i hi
          rw [Nat.zero_add] at d3
          exact ⟨d, d1, d2, by rw [upd_n _ _ (by omega), f1 i hi, d3]⟩
        · exact PKf.cg (fun t ht => by rw [upd_n _ _ (by omega), f1 t ht, Nat.zero_add])
    · refine dead 1 (by decide) ?_ ?_
      · have hb : G + T + N ≤ 16 := by omega
        have hi : ∃ w, fX5_nameIndex n (upd (upd o 2 1) 3 (o 6)) c Y = some w := by
          rcases idxS (n := n) (by omega) hb (o := upd (upd o 2 1) 3 (o 6)) h11 c Y with ⟨i, -, -, e⟩ | ⟨-, e⟩
          · exact ⟨_, e⟩
          · exact ⟨_, e⟩
        obtain ⟨w, hw⟩ := hi
        rw [fX5_takeNewName, a1, ob1_ss]
        dsimp only [jn]
        rw [if_pos i00, fail_l hl.2.1, ob3_ss, hw, ob1_ss]
        have dd := D1 1 (by decide)
        simp only [fail_d dd, ob3_ss, failed_d dd, ob1_ss, if_neg i10, ite_self]
      · have hn13 : ¬ upd (upd (upd om 13 1) 9 1) 10 (om 4) 13 = 0 := i10
        rw [fX10_newName, if_pos h13, a2, ob1_ss, if_neg hn13, if_neg hn13]
  · refine ⟨o, c, Y, f13, f14, om, lt, fr, newname_d (by omega) (show G + T + N ≤ 16 by omega) h11 hd.2.1, by rw [fX10_newName, if_neg (by rw [hd.1]; decide)], Or.inr hd, fun _ _ _ _ _ _ _ _ => rfl, FM.refl _, ⟨G + T + N, by omega, h11⟩, fun q => absurd (hd.1.symm.trans q) (by decide)⟩
