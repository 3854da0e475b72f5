/-! the house that is being read, as both hold it: part by part -/
def RC (G D T N S : Nat) (H : Nat → Nat → Int32) (fr : Nat → Int32) : Prop := G ≤ 7 ∧ D ≤ 8 ∧ T ≤ 4 ∧ N ≤ 5 ∧ S ≤ 6 ∧ H 5 3 = nI G ∧ fr 3 = nI G ∧ H 5 9 = nI D ∧ fr 5 = nI D ∧ H 5 13 = nI T ∧ fr 6 = nI T ∧ H 15 0 = nI N ∧ fr 7 = nI N ∧ H 15 3 = nI S ∧ fr 8 = nI S ∧ H 5 8 = fr 4
def RE (op : Bool) (H : Nat → Nat → Int32) (fr : Nat → Int32) : Prop := (op = true → H 5 0 = fr 0 ∧ H 5 1 = fr 1 ∧ H 5 2 = fr 2 ∧ (∃ k, k ≤ 4 ∧ fr 0 = nI k) ∧ (∃ k, 1 ≤ k ∧ k ≤ 30 ∧ fr 1 = nI k) ∧ ∃ k, k ≤ 40 ∧ fr 2 = nI k) ∧ (op = false → fr 1 = 0)
def RG (G : Nat) (H : Nat → Nat → Int32) (fr : Nat → Int32) : Prop := ∀ g, g < G → H 6 g = fr (9 + 4 * g) ∧ H 7 g = fr (9 + 4 * g + 1) ∧ H 8 g = fr (9 + 4 * g + 2) ∧ (∃ k, 1 ≤ k ∧ k ≤ 99 ∧ fr (9 + 4 * g + 1) = nI k) ∧ ∃ k, k ≤ 20 ∧ fr (9 + 4 * g + 2) = nI k
def RP (G : Nat) (H : Nat → Nat → Int32) (fr : Nat → Int32) : Prop := (∀ g, g < G → (H 9 g = -2 ∧ fr (9 + 4 * g + 3) = 0) ∨ ∃ j, j < G ∧ H 9 g = nI j ∧ fr (9 + 4 * g + 3) = nI (j + 1)) ∧ (∀ g, g < G → ∀ j, j < G → H 9 g = nI j → H 9 j = nI g ∧ g ≠ j) ∧ ∀ g, G ≤ g → g < 7 → fr (9 + 4 * g + 3) = 0
def RW (G D : Nat) (H : Nat → Nat → Int32) (fr : Nat → Int32) : Prop := (∀ d, d < D → ∃ a b, a < G ∧ b < G ∧ a ≠ b ∧ H 10 d = nI a ∧ H 11 d = nI b) ∧ (∀ d, d < D → ∃ k, 1 ≤ k ∧ k ≤ 20 ∧ H 12 d = nI k) ∧ (∀ a, a < D → ∀ b, b < D → H 10 a = H 10 b → H 11 a = H 11 b → a = b) ∧ ∀ a, a < 7 → ∀ b, b < 7 → a ≠ b → fr (37 + 7 * a + b) = sm (fun d => if H 10 d = nI a ∧ H 11 d = nI b then H 12 d else 0) D
def RT (T : Nat) (H : Nat → Nat → Int32) (fr : Nat → Int32) : Prop := ∀ t, t < T → H 13 t = fr (86 + 2 * t) ∧ H 14 t = fr (86 + 2 * t + 1) ∧ (∃ k, 1 ≤ k ∧ k ≤ 3 ∧ fr (86 + 2 * t) = nI k) ∧ ∃ k, k ≤ 30 ∧ fr (86 + 2 * t + 1) = nI k
def RN (N : Nat) (H : Nat → Nat → Int32) (fr : Nat → Int32) : Prop := ∀ k, k < N → H 16 k = fr (94 + 2 * k) ∧ H 17 k = fr (94 + 2 * k + 1)
def RSi (G S : Nat) (H : Nat → Nat → Int32) (fr : Nat → Int32) : Prop := ∀ k, k < S → H 18 k = fr (104 + 3 * k) ∧ H 19 k = fr (104 + 3 * k + 1) ∧ ((H 20 k = 1 ∧ fr (104 + 3 * k + 2) = 0) ∨ (H 20 k = 0 ∧ fr (104 + 3 * k + 2) = 1)) ∧ (∃ g, g < G ∧ fr (104 + 3 * k) = nI g) ∧ ∃ h, h ≤ 30 ∧ fr (104 + 3 * k + 1) = nI h
theorem RE.cg {op : Bool} {H H' : Nat → Nat → Int32} {fr fr' : Nat → Int32} (h : RE op H fr) (e0 : H' 5 0 = H 5 0) (e1 : H' 5 1 = H 5 1) (e2 : H' 5 2 = H 5 2) (f : ∀ i, i < 3 → fr' i = fr i) : RE op H' fr' := by
  refine ⟨fun q => ?_, fun q => by rw [f 1 (by omega)]; exact h.2 q⟩
  rw [e0, e1, e2, f 0 (by omega), f 1 (by omega), f 2 (by omega)]; exact h.1 q
theorem RG.cg {G : Nat} {H H' : Nat → Nat → Int32} {fr fr' : Nat → Int32} (h : RG G H fr) (e : ∀ g, g < G → H' 6 g = H 6 g ∧ H' 7 g = H 7 g ∧ H' 8 g = H 8 g) (f : ∀ g, g < G → ∀ j, j < 3 → fr' (9 + 4 * g + j) = fr (9 + 4 * g + j)) : RG G H' fr' := fun g hg => by
  have f0 : fr' (9 + 4 * g) = fr (9 + 4 * g) := f g hg 0 (by omega)
  rw [(e g hg).1, (e g hg).2.1, (e g hg).2.2, f0, f g hg 1 (by omega), f g hg 2 (by omega)]; exact h g hg
theorem RP.cg {G : Nat} {H H' : Nat → Nat → Int32} {fr fr' : Nat → Int32} (hG : G ≤ 7) (h : RP G H fr) (e : ∀ g, g < G → H' 9 g = H 9 g) (f : ∀ g, g < 7 → fr' (9 + 4 * g + 3) = fr (9 + 4 * g + 3)) : RP G H' fr' := by
  refine ⟨fun g hg => ?_, fun g hg j hj hq => ?_, fun g h1 h2 => by rw [f g h2]; exact h.2.2 g h1 h2⟩
  · rw [e g hg, f g (by omega)]; exact h.1 g hg
  · rw [e g hg] at hq; rw [e j hj]; exact h.2.1 g hg j hj hq
theorem RW.cg {G D : Nat} {H H' : Nat → Nat → Int32} {fr fr' : Nat → Int32} (h : RW G D H fr) (e : ∀ d, d < D → H' 10 d = H 10 d ∧ H' 11 d = H 11 d ∧ H' 12 d = H 12 d) (f : ∀ i, 37 ≤ i → i < 86 → fr' i = fr i) : RW G D H' fr' := by
  refine ⟨fun d hd => ?_, fun d hd => ?_, fun a ha b hb h1 h2 => ?_, fun a ha b hb hab => ?_⟩
  · rw [(e d hd).1, (e d hd).2.1]; exact h.1 d hd
  · rw [(e d hd).2.2]; exact h.2.1 d hd
  · rw [(e a ha).1, (e b hb).1] at h1
    rw [(e a ha).2.1, (e b hb).2.1] at h2
    exact h.2.2.1 a ha b hb h1 h2
  · rw [f _ (by omega) (by omega), h.2.2.2 a ha b hb hab]
    exact sm_congr (fun d hd => by rw [(e d hd).1, (e d hd).2.1, (e d hd).2.2])
theorem RW.mono {G G' D : Nat} {H : Nat → Nat → Int32} {fr : Nat → Int32} (hG : G ≤ G') (h : RW G D H fr) : RW G' D H fr := ⟨fun d hd => by
  obtain ⟨a, b, h1, h2, h3⟩ := h.1 d hd
  exact ⟨a, b, by omega, by omega, h3⟩, h.2⟩
theorem RT.cg {T : Nat} {H H' : Nat → Nat → Int32} {fr fr' : Nat → Int32} (hT : T ≤ 4) (h : RT T H fr) (e : ∀ t, t < T → H' 13 t = H 13 t ∧ H' 14 t = H 14 t) (f : ∀ i, 86 ≤ i → i < 86 + 2 * T → fr' i = fr i) : RT T H' fr' := fun t ht => by
  rw [(e t ht).1, (e t ht).2, f _ (by omega) (by omega), f _ (by omega) (by omega)]; exact h t ht
theorem RN.cg {N : Nat} {H H' : Nat → Nat → Int32} {fr fr' : Nat → Int32} (hN : N ≤ 5) (h : RN N H fr) (e : ∀ t, t < N → H' 16 t = H 16 t ∧ H' 17 t = H 17 t) (f : ∀ i, 94 ≤ i → i < 94 + 2 * N → fr' i = fr i) : RN N H' fr' := fun t ht => by
  rw [(e t ht).1, (e t ht).2, f _ (by omega) (by omega), f _ (by omega) (by omega)]; exact h t ht
theorem RSi.cg {G S : Nat} {H H' : Nat → Nat → Int32} {fr fr' : Nat → Int32} (hS : S ≤ 6) (h : RSi G S H fr) (e : ∀ t, t < S → H' 18 t = H 18 t ∧ H' 19 t = H 19 t ∧ H' 20 t = H 20 t) (f : ∀ i, 104 ≤ i → i < 104 + 3 * S → fr' i = fr i) : RSi G S H' fr' := fun t ht => by
  rw [(e t ht).1, (e t ht).2.1, (e t ht).2.2, f _ (by omega) (by omega), f (104 + 3 * t + 1) (by omega) (by omega), f (104 + 3 * t + 2) (by omega) (by omega)]; exact h t ht
theorem RSi.mono {G G' S : Nat} {H : Nat → Nat → Int32} {fr : Nat → Int32} (hG : G ≤ G') (h : RSi G S H fr) : RSi G' S H fr := fun k hk => by
  obtain ⟨h1, h2, h3, ⟨g, g1, g2⟩, h4⟩ := h k hk
  exact ⟨h1, h2, h3, ⟨g, by omega, g2⟩, h4⟩
theorem NAM.cg {G T N : Nat} {Y : Nat → Int64} {f13 f14 fr fr' : Nat → Int32} (h : NAM G T N Y f13 f14 fr) (f : ∀ i, 122 ≤ i → i < 266 → fr' i = fr i) : NAM G T N Y f13 f14 fr' := by
  obtain ⟨h1, h2, h3, h4, h5, h6, h7⟩ := h
  have ec : ∀ s, s < 16 → usd G T N s → cdS fr' s = cdS fr s := fun s hs hu => by
    obtain ⟨⟨z, z1, z2, z3, z4⟩, -⟩ := h4 s hs hu
    rw [cdS_z z2 z3, cdS_z (fr := fr') z2 (by rw [f _ (by omega) (by omega)]; exact z3)]
    exact PKf.cg (fun i hi => f _ (by omega) (by omega))
  refine ⟨h1, h2, h3, fun s hs hu => ?_, fun s hs hu => by rw [f _ (by omega) (by omega)]; exact h5 s hs hu, fun i hi => ?_, fun s s' hs hs' hu hu' e => h7 s s' hs hs' hu hu' (by rw [← ec s hs hu, ← ec s' hs' hu']; exact e)⟩
  · obtain ⟨⟨z, z1, z2, z3, z4⟩, q⟩ := h4 s hs hu
    refine ⟨⟨z, z1, z2, by rw [f _ (by omega) (by omega)]; exact z3, fun i hi => ?_⟩, by rw [ec s hs hu]; exact q⟩
    obtain ⟨b, b1, b2, b3⟩ := z4 i hi
    exact ⟨b, b1, b2, by rw [f _ (by omega) (by omega)]; exact b3⟩
  · obtain ⟨s, s1, s2, s3, s4⟩ := h6 i hi
    exact ⟨s, s1, s2, by rw [ec s s1 s2]; exact s3, s4⟩
/-- a name more -/
theorem NAM.add {G T N G' T' N' s : Nat} {Y : Nat → Int64} {f13 f14 fr fr' : Nat → Int32} (h : NAM G T N Y f13 f14 fr) (hG : G' ≤ 7) (hT : T' ≤ 4) (hN : N' ≤ 5) (hs : s < 16) (hsum : G' + T' + N' = G + T + N + 1) (hu : ∀ t, t < 16 → (usd G' T' N' t ↔ (usd G T N t ∨ t = s))) (hns : ¬ usd G T N s) {z P : Nat} (z1 : 1 ≤ z) (z2 : z ≤ 8) (z3 : fr' (122 + s) = nI z) (z4 : LET fr' (138 + 8 * s) z) (z5 : PKf fr' (138 + 8 * s) z = P) (z6 : ∀ s', s' < 16 → usd G T N s' → cdS fr s' ≠ P) (f : ∀ i, 122 ≤ i → i < 266 → i ≠ 122 + s → (i < 138 + 8 * s ∨ 138 + 8 * s + 8 ≤ i) → fr' i = fr i) :
    NAM G' T' N' (vp_updL Y (G + T + N) (lN P)) (upd f13 (G + T + N) (slL s)) (upd f14 (G + T + N) (slN s)) fr' := by
  obtain ⟨h1, h2, h3, h4, h5, h6, h7⟩ := h
  have es : cdS fr' s = P := by rw [cdS_z z2 z3, z5]
  have ec : ∀ t, t < 16 → usd G T N t → cdS fr' t = cdS fr t := fun t ht hut => by
    have hne : t ≠ s := fun e => hns (e ▸ hut)
    obtain ⟨⟨y, y1, y2, y3, y4⟩, -⟩ := h4 t ht hut
    rw [cdS_z y2 y3, cdS_z (fr := fr') y2 (by rw [f _ (by omega) (by omega) (by omega) (by omega)]; exact y3)]
    exact PKf.cg (fun i hi => f _ (by omega) (by omega) (by omega) (by omega))
  refine ⟨hG, hT, hN, fun t ht hut => ?_, fun t ht hut => ?_, fun i hi => ?_, fun t t' ht ht' hut hut' e => ?_⟩
  · rcases (hu t ht).mp hut with q | q
    · have hne : t ≠ s := fun e => hns (e ▸ q)
      obtain ⟨⟨y, y1, y2, y3, y4⟩, i, i1, i2, i3, i4⟩ := h4 t ht q
      refine ⟨⟨y, y1, y2, by rw [f _ (by omega) (by omega) (by omega) (by omega)]; exact y3, fun j hj => ?_⟩, i, by omega, by rw [pk_uLn (by omega), ec t ht q]; exact i2, by rw [upd_n _ _ (by omega)]; exact i3, by rw [upd_n _ _ (by omega)]; exact i4⟩
      obtain ⟨b, b1, b2, b3⟩ := y4 j hj
      exact ⟨b, b1, b2, by rw [f _ (by omega) (by omega) (by omega) (by omega)]; exact b3⟩
    · subst q
      exact ⟨⟨z, z1, z2, z3, z4⟩, G + T + N, by omega, by rw [pk_uLs, es], by rw [upd_s], by rw [upd_s]⟩
  · have hne : t ≠ s := fun e => hut ((hu t ht).mpr (Or.inr e))
    rw [f _ (by omega) (by omega) (by omega) (by omega)]
    exact h5 t ht (fun q => hut ((hu t ht).mpr (Or.inl q)))
  · by_cases e : i = G + T + N
    · subst e
      exact ⟨s, hs, (hu s hs).mpr (Or.inr rfl), by rw [pk_uLs, es], by rw [upd_s], by rw [upd_s]⟩
    · obtain ⟨t, t1, t2, t3, t4, t5⟩ := h6 i (by omega)
      exact ⟨t, t1, (hu t t1).mpr (Or.inl t2), by rw [pk_uLn e, ec t t1 t2]; exact t3, by rw [upd_n _ _ e]; exact t4, by rw [upd_n _ _ e]; exact t5⟩
  · rcases (hu t ht).mp hut with q | q
    · rcases (hu t' ht').mp hut' with q' | q'
      · exact h7 t t' ht ht' q q' (by rw [← ec t ht q, ← ec t' ht' q']; exact e)
      · subst q'
        rw [ec t ht q, es] at e
        exact absurd e (z6 t ht q)
    · rcases (hu t' ht').mp hut' with q' | q'
      · subst q
        rw [es, ec t' ht' q'] at e
        exact absurd e.symm (z6 t' ht' q')
      · rw [q, q']
theorem RG.add {G : Nat} {H H' : Nat → Nat → Int32} {fr fr' : Nat → Int32} (h : RG G H fr) (e : ∀ g, g < G → H' 6 g = H 6 g ∧ H' 7 g = H 7 g ∧ H' 8 g = H 8 g) (f : ∀ g, g < G → ∀ j, j < 3 → fr' (9 + 4 * g + j) = fr (9 + 4 * g + j)) (n : H' 6 G = fr' (9 + 4 * G) ∧ H' 7 G = fr' (9 + 4 * G + 1) ∧ H' 8 G = fr' (9 + 4 * G + 2) ∧ (∃ k, 1 ≤ k ∧ k ≤ 99 ∧ fr' (9 + 4 * G + 1) = nI k) ∧ ∃ k, k ≤ 20 ∧ fr' (9 + 4 * G + 2) = nI k) : RG (G + 1) H' fr' := fun g hg => by
  by_cases q : g = G
  · subst q; exact n
  · exact (h.cg e f) g (by omega)
theorem RP.add {G : Nat} {H H' : Nat → Nat → Int32} {fr fr' : Nat → Int32} (hG : G < 7) (h : RP G H fr) (e : ∀ g, g < G → H' 9 g = H 9 g) (eG : H' 9 G = -2) (f : ∀ g, g < 7 → fr' (9 + 4 * g + 3) = fr (9 + 4 * g + 3)) : RP (G + 1) H' fr' := by
  have c := h.cg (by omega) e f
  have ne2 : ∀ j, j < 7 → ¬ nI j = (-2 : Int32) := by decide +kernel
  refine ⟨fun g hg => ?_, fun g hg j hj hq => ?_, fun g h1 h2 => c.2.2 g (by omega) h2⟩
  · by_cases q : g = G
    · subst q; exact Or.inl ⟨eG, by rw [f g (by omega)]; exact h.2.2 g (Nat.le_refl _) (by omega)⟩
    · rcases c.1 g (by omega) with z | ⟨j, z1, z2⟩
      · exact Or.inl z
      · exact Or.inr ⟨j, by omega, z2⟩
  · by_cases q : g = G
    · subst q; rw [eG] at hq; exact absurd hq.symm (ne2 j (by omega))
    · by_cases q2 : j = G
      · subst q2
        rcases c.1 g (by omega) with ⟨z, -⟩ | ⟨i, z1, z2, -⟩
        · rw [z] at hq; exact absurd hq.symm (ne2 j (by omega))
        · have := nI_inj (by omega) (by omega) (z2.symm.trans hq)
          omega
      · exact c.2.1 g (by omega) j (by omega) hq
theorem RP.pair {G a b : Nat} {H : Nat → Nat → Int32} {fr fr' : Nat → Int32} (hG : G ≤ 7) (h : RP G H fr) (ha : a < G) (hb : b < G) (hab : a ≠ b) (na : ∀ j, j < G → ¬ H 9 a = nI j) (nb : ∀ j, j < G → ¬ H 9 b = nI j) {m' : Nat → Int32} (em : m' = upd (upd (H 9) a (nI b)) b (nI a)) (fa : fr' (9 + 4 * a + 3) = nI (b + 1)) (fb : fr' (9 + 4 * b + 3) = nI (a + 1)) (f : ∀ g, g < 7 → g ≠ a → g ≠ b → fr' (9 + 4 * g + 3) = fr (9 + 4 * g + 3)) {H' : Nat → Nat → Int32} (eH : H' 9 = m') : RP G H' fr' := by
  have ma : H' 9 a = nI b := by rw [eH, em, upd_n _ _ hab, upd_s]
  have mb : H' 9 b = nI a := by rw [eH, em, upd_s]
  have mo : ∀ g, g ≠ a → g ≠ b → H' 9 g = H 9 g := fun g h1 h2 => by rw [eH, em, upd_n _ _ h2, upd_n _ _ h1]
  refine ⟨fun g hg => ?_, fun g hg j hj hq => ?_, fun g h1 h2 => ?_⟩
  · by_cases q1 : g = a
    · subst q1; exact Or.inr ⟨b, hb, ma, fa⟩
    · by_cases q2 : g = b
      · subst q2; exact Or.inr ⟨a, ha, mb, fb⟩
      · rw [mo g q1 q2, f g (by omega) q1 q2]; exact h.1 g hg
  · by_cases q1 : g = a
    · subst q1
      have e : j = b := nI_inj (by omega) (by omega) (hq.symm.trans ma)
      subst e; exact ⟨mb, hab⟩
    · by_cases q2 : g = b
      · subst q2
        have e : j = a := nI_inj (by omega) (by omega) (hq.symm.trans mb)
        subst e; exact ⟨ma, fun z => hab z.symm⟩
      · rw [mo g q1 q2] at hq
        have k := h.2.1 g hg j hj hq
        have ja : j ≠ a := fun e => na g hg (by rw [← e]; exact k.1)
        have jb : j ≠ b := fun e => nb g hg (by rw [← e]; exact k.1)
        exact ⟨by rw [mo j ja jb]; exact k.1, k.2⟩
  · rw [f g h2 (by omega) (by omega)]; exact h.2.2 g h1 h2
theorem RW.add {G D a b k : Nat} {H H' : Nat → Nat → Int32} {fr fr' : Nat → Int32} (hG : G ≤ 7) (h : RW G D H fr) (ha : a < G) (hb : b < G) (hab : a ≠ b) (hk1 : 1 ≤ k) (hk2 : k ≤ 20) (hnew : ∀ d, d < D → ¬ (H 10 d = nI a ∧ H 11 d = nI b)) (e : ∀ d, d < D → H' 10 d = H 10 d ∧ H' 11 d = H 11 d ∧ H' 12 d = H 12 d) (eD : H' 10 D = nI a ∧ H' 11 D = nI b ∧ H' 12 D = nI k) (f1 : fr' (37 + 7 * a + b) = nI k) (f : ∀ i, 37 ≤ i → i < 86 → i ≠ 37 + 7 * a + b → fr' i = fr i) : RW G (D + 1) H' fr' := by
  refine ⟨fun d hd => ?_, fun d hd => ?_, fun x hx y hy h1 h2 => ?_, fun x hx y hy hxy => ?_⟩
  · by_cases q : d = D
    · subst q; exact ⟨a, b, ha, hb, hab, eD.1, eD.2.1⟩
    · rw [(e d (by omega)).1, (e d (by omega)).2.1]; exact h.1 d (by omega)
  · by_cases q : d = D
    · subst q; exact ⟨k, hk1, hk2, eD.2.2⟩
    · rw [(e d (by omega)).2.2]; exact h.2.1 d (by omega)
  · by_cases qx : x = D
    · by_cases qy : y = D
      · omega
      · exfalso
        rw [qx, eD.1, (e y (by omega)).1] at h1
        rw [qx, eD.2.1, (e y (by omega)).2.1] at h2
        exact hnew y (by omega) ⟨h1.symm, h2.symm⟩
    · by_cases qy : y = D
      · exfalso
        rw [qy, eD.1, (e x (by omega)).1] at h1
        rw [qy, eD.2.1, (e x (by omega)).2.1] at h2
        exact hnew x (by omega) ⟨h1, h2⟩
      · rw [(e x (by omega)).1, (e y (by omega)).1] at h1
        rw [(e x (by omega)).2.1, (e y (by omega)).2.1] at h2
        exact h.2.2.1 x (by omega) y (by omega) h1 h2
  · rw [sm, eD.1, eD.2.1, eD.2.2]
    have es : sm (fun d => if H' 10 d = nI x ∧ H' 11 d = nI y then H' 12 d else 0) D = sm (fun d => if H 10 d = nI x ∧ H 11 d = nI y then H 12 d else 0) D := sm_congr (fun d hd => by rw [(e d hd).1, (e d hd).2.1, (e d hd).2.2])
    rw [es]
    by_cases q : x = a ∧ y = b
    · obtain ⟨rfl, rfl⟩ := q
      rw [f1, if_pos ⟨rfl, rfl⟩, sm_none (fun d hd => if_neg (hnew d hd)), Int32.zero_add]
    · rw [if_neg (fun z => q ⟨(nI_inj (by omega) (by omega) z.1).symm, (nI_inj (by omega) (by omega) z.2).symm⟩), Int32.add_zero, f _ (by omega) (by omega) (by omega)]
      exact h.2.2.2 x hx y hy hxy
theorem RT.add {T : Nat} {H H' : Nat → Nat → Int32} {fr fr' : Nat → Int32} (hT : T < 4) (h : RT T H fr) (e : ∀ t, t < T → H' 13 t = H 13 t ∧ H' 14 t = H 14 t) (f : ∀ i, 86 ≤ i → i < 86 + 2 * T → fr' i = fr i) (n : H' 13 T = fr' (86 + 2 * T) ∧ H' 14 T = fr' (86 + 2 * T + 1) ∧ (∃ k, 1 ≤ k ∧ k ≤ 3 ∧ fr' (86 + 2 * T) = nI k) ∧ ∃ k, k ≤ 30 ∧ fr' (86 + 2 * T + 1) = nI k) : RT (T + 1) H' fr' := fun t ht => by
  by_cases q : t = T
  · subst q; exact n
  · exact (h.cg (by omega) e f) t (by omega)
theorem RN.add {N : Nat} {H H' : Nat → Nat → Int32} {fr fr' : Nat → Int32} (hN : N < 5) (h : RN N H fr) (e : ∀ t, t < N → H' 16 t = H 16 t ∧ H' 17 t = H 17 t) (f : ∀ i, 94 ≤ i → i < 94 + 2 * N → fr' i = fr i) (n : H' 16 N = fr' (94 + 2 * N) ∧ H' 17 N = fr' (94 + 2 * N + 1)) : RN (N + 1) H' fr' := fun t ht => by
  by_cases q : t = N
  · subst q; exact n
  · exact (h.cg (by omega) e f) t (by omega)
theorem RSi.add {G S : Nat} {H H' : Nat → Nat → Int32} {fr fr' : Nat → Int32} (hS : S < 6) (h : RSi G S H fr) (e : ∀ t, t < S → H' 18 t = H 18 t ∧ H' 19 t = H 19 t ∧ H' 20 t = H 20 t) (f : ∀ i, 104 ≤ i → i < 104 + 3 * S → fr' i = fr i) (n : H' 18 S = fr' (104 + 3 * S) ∧ H' 19 S = fr' (104 + 3 * S + 1) ∧ ((H' 20 S = 1 ∧ fr' (104 + 3 * S + 2) = 0) ∨ (H' 20 S = 0 ∧ fr' (104 + 3 * S + 2) = 1)) ∧ (∃ g, g < G ∧ fr' (104 + 3 * S) = nI g) ∧ ∃ h, h ≤ 30 ∧ fr' (104 + 3 * S + 1) = nI h) : RSi G (S + 1) H' fr' := fun t ht => by
  by_cases q : t = S
  · subst q; exact n
  · exact (h.cg (by omega) e f) t (by omega)
/-- all of it -/
def RH (op : Bool) (G D T N S : Nat) (H : Nat → Nat → Int32) (fr : Nat → Int32) : Prop := RC G D T N S H fr ∧ RE op H fr ∧ RG G H fr ∧ RP G H fr ∧ RW G D H fr ∧ RT T H fr ∧ RN N H fr ∧ RSi G S H fr ∧ (op = false → G = 0 ∧ D = 0 ∧ T = 0 ∧ N = 0 ∧ S = 0)
theorem RH.hx {G D T N S : Nat} {H : Nat → Nat → Int32} {fr : Nat → Int32} (h : RH true G D T N S H fr) (hG1 : 1 ≤ G) : HX G D T N S H fr := by
  obtain ⟨⟨c1, c2, c3, c4, c5, c6, c7, c8, c9, c10, c11, c12, c13, c14, c15, c16⟩, ⟨e, -⟩, g, p, w, t, nd, si, -⟩ := h
  obtain ⟨e0, e1, e2, e3, e4, e5⟩ := e rfl
  refine ⟨⟨c1, c6, c7, e2, fun x hx => (g x hx).1, fun x hx => (g x hx).2.2.1, p.1, c2, c8, w.1, fun a ha b hb hab => w.2.2.2 a (by omega) b (by omega) hab⟩, hG1, c3, c4, c5, e0, e1, c16, c8.trans c9.symm, c10, c11, c12, c13, c14, c15, e3, e4, e5, trivial, fun x hx => (g x hx).2.1, fun x hx => (g x hx).2.2.2.1, trivial, fun x hx => (g x hx).2.2.2.2, p.2.1, w.2.1, w.2.2.1, fun x hx => ⟨(t x hx).1, (t x hx).2.1⟩, fun x hx => (t x hx).2.2.1, fun x hx => (t x hx).2.2.2, nd, trivial, fun x hx => ⟨(si x hx).1, (si x hx).2.1, (si x hx).2.2.1⟩, fun x hx => (si x hx).2.2.2⟩
