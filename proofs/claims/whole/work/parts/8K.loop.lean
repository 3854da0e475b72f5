/-! the loop over the lines: class and reference together -/
theorem line_some (n : Nat) (o : Nat → Int32) (c : Int64) : ∃ v, fX5_lineOfWord n o c = some v := by
  by_cases h : o 5 = 1
  · have hc : c = lN c.toBitVec.toNat := wb_inj (by rw [wb_tb]; simp)
    have hb : c.toBitVec.toNat < 2 ^ 64 := c.toBitVec.isLt
    rw [hc]; exact ⟨_, lwS hb h⟩
  · exact ⟨_, lw_n h⟩
theorem full_some (n : Nat) (x : Int32) (h5 h15 : Nat → Int32) : ∃ v, fX5_isFull n x h5 h15 = some v := by
  unfold fX5_isFull
  repeat' split
  all_goals exact ⟨_, rfl⟩
theorem tl_d {n : Nat} {o tp h5 h15 : Nat → Int32} {c : Int64} (h : ¬ o 2 = 0) : fX5_takeLine n o c tp h5 h15 = some (-1, o, c) := by
  obtain ⟨v, hv⟩ := line_some n o c
  obtain ⟨b, hb⟩ := full_some n v h5 h15
  rw [fX5_takeLine, hv, ob1_ss]
  simp only [jn, fail_d h, taken_d h, ob3_ss, hb, ob1_ss, ite_self]
theorem line_d {n : Nat} {o tp f13 f14 : Nat → Int32} {c : Int64} {Y : Nat → Int64} {H : Nat → Nat → Int32} (h : ¬ o 2 = 0) : fX5_readLine n o c tp Y f13 f14 (H 5) (H 6) (H 7) (H 8) (H 9) (H 10) (H 11) (H 12) (H 13) (H 14) (H 15) (H 16) (H 17) (H 18) (H 19) (H 20) = some (o, c, Y, f13, f14, (H 5), (H 6), (H 7), (H 8), (H 9), (H 10), (H 11), (H 12), (H 13), (H 14), (H 15), (H 16), (H 17), (H 18), (H 19), (H 20)) := by
  rw [fX5_readLine, tl_d h, ob3_ss, if_neg (by decide), if_neg (by decide), if_neg (by decide), if_neg (by decide), if_neg (by decide), if_neg (by decide), if_neg (by decide), if_neg (by decide)]
theorem ob21_ss {A0 A1 A2 A3 A4 A5 A6 A7 A8 A9 A10 A11 A12 A13 A14 A15 A16 A17 A18 A19 A20 Z : Type} (a0 : A0) (a1 : A1) (a2 : A2) (a3 : A3) (a4 : A4) (a5 : A5) (a6 : A6) (a7 : A7) (a8 : A8) (a9 : A9) (a10 : A10) (a11 : A11) (a12 : A12) (a13 : A13) (a14 : A14) (a15 : A15) (a16 : A16) (a17 : A17) (a18 : A18) (a19 : A19) (a20 : A20) (k : A0 → A1 → A2 → A3 → A4 → A5 → A6 → A7 → A8 → A9 → A10 → A11 → A12 → A13 → A14 → A15 → A16 → A17 → A18 → A19 → A20 → Option Z) : ob21 (some (a0, a1, a2, a3, a4, a5, a6, a7, a8, a9, a10, a11, a12, a13, a14, a15, a16, a17, a18, a19, a20)) k = k a0 a1 a2 a3 a4 a5 a6 a7 a8 a9 a10 a11 a12 a13 a14 a15 a16 a17 a18 a19 a20 := rfl
/-- how a reading ends: dead; at the end of the text; or at a token that is no mark, where the class has failed already -/
def EXIT (L : Nat) (H : Nat → Nat → Int32) (fr o : Nat → Int32) (c : Int64) (om lt : Nat → Int32) (Y : Nat → Int64) (f13 f14 : Nat → Int32) : Prop :=
  DEAD o om ∨ (LIVE o om ∧ o 6 = om 4 ∧ om 6 = 0 ∧ ∃ op G D T N S, o 10 = (if op = true then 1 else 0) ∧ RH op G D T N S H fr) ∨ (om 13 = 0 ∧ ¬ om 6 = 0 ∧ DEAD o (upd (upd (upd om 13 1) 9 1) 10 (om 4)))
theorem loop_dead {n : Nat} {tp : Nat → Int32} (K : (Nat → Int32) → Int64 → (Nat → Int64) → (Nat → Int32) → (Nat → Int32) → (Nat → Int32) → (Nat → Int32) → (Nat → Int32) → (Nat → Int32) → (Nat → Int32) → (Nat → Int32) → (Nat → Int32) → (Nat → Int32) → (Nat → Int32) → (Nat → Int32) → (Nat → Int32) → (Nat → Int32) → (Nat → Int32) → (Nat → Int32) → (Nat → Int32) → (Nat → Int32) → Option (Int32 × (Nat → Int32) × Int64 × (Nat → Int64) × (Nat → Int32) × (Nat → Int32) × (Nat → Int32) × (Nat → Int32) × (Nat → Int32) × (Nat → Int32) × (Nat → Int32) × (Nat → Int32) × (Nat → Int32) × (Nat → Int32) × (Nat → Int32) × (Nat → Int32) × (Nat → Int32) × (Nat → Int32) × (Nat → Int32) × (Nat → Int32) × (Nat → Int32) × (Nat → Int32))) {f : Nat} {x : Int32} {o f13 f14 : Nat → Int32} {c : Int64} {Y : Nat → Int64} {H : Nat → Nat → Int32} (h : ¬ o 2 = 0) : fX5_read_L51 n tp K (f + 1) x o c Y f13 f14 (H 5) (H 6) (H 7) (H 8) (H 9) (H 10) (H 11) (H 12) (H 13) (H 14) (H 15) (H 16) (H 17) (H 18) (H 19) (H 20) = K o c Y f13 f14 (H 5) (H 6) (H 7) (H 8) (H 9) (H 10) (H 11) (H 12) (H 13) (H 14) (H 15) (H 16) (H 17) (H 18) (H 19) (H 20) := by
  rw [fX5_read_L51, failed_d h, ob1_ss, if_neg i10, ite_self]
theorem loop_lock {n L : Nat} (hn : 1000 ≤ n) {tp mt : Nat → Int32} (ht : TAPE L tp mt) :
    ∀ (j k f1 f2 : Nat) (o : Nat → Int32) (c : Int64) (Y : Nat → Int64) (f13 f14 : Nat → Int32) (H : Nat → Nat → Int32) (om lt fr : Nat → Int32), k + j = L → j < f1 → j < f2 → RDS L k H fr o c om lt Y f13 f14 →
      ∃ o' c' Y' a13 a14 H' om' lt' fr', (∀ K, fX5_read_L51 n tp K f1 (nI k) o c Y f13 f14 (H 5) (H 6) (H 7) (H 8) (H 9) (H 10) (H 11) (H 12) (H 13) (H 14) (H 15) (H 16) (H 17) (H 18) (H 19) (H 20) = K o' c' Y' a13 a14 (H' 5) (H' 6) (H' 7) (H' 8) (H' 9) (H' 10) (H' 11) (H' 12) (H' 13) (H' 14) (H' 15) (H' 16) (H' 17) (H' 18) (H' 19) (H' 20)) ∧ (∀ K2, fX10_evening_L77 n mt K2 f2 om lt fr = K2 om' lt' fr') ∧ EXIT L H' fr' o' c' om' lt' Y' a13 a14 ∧ FO2 o o' ∧ FM om om' := by
  have hL := ht.1
  have dead : ∀ (k f1 f2 : Nat) (o : Nat → Int32) (c : Int64) (Y : Nat → Int64) (f13 f14 : Nat → Int32) (H : Nat → Nat → Int32) (om lt fr : Nat → Int32), 0 < f1 → 0 < f2 → DEAD o om →
      ∃ o' c' Y' a13 a14 H' om' lt' fr', (∀ K, fX5_read_L51 n tp K f1 (nI k) o c Y f13 f14 (H 5) (H 6) (H 7) (H 8) (H 9) (H 10) (H 11) (H 12) (H 13) (H 14) (H 15) (H 16) (H 17) (H 18) (H 19) (H 20) = K o' c' Y' a13 a14 (H' 5) (H' 6) (H' 7) (H' 8) (H' 9) (H' 10) (H' 11) (H' 12) (H' 13) (H' 14) (H' 15) (H' 16) (H' 17) (H' 18) (H' 19) (H' 20)) ∧ (∀ K2, fX10_evening_L77 n mt K2 f2 om lt fr = K2 om' lt' fr') ∧ EXIT L H' fr' o' c' om' lt' Y' a13 a14 ∧ FO2 o o' ∧ FM om om' := fun k f1 f2 o c Y f13 f14 H om lt fr h1 h2 hd => by
    obtain ⟨u1, rfl⟩ : ∃ u, f1 = u + 1 := ⟨f1 - 1, by omega⟩
    obtain ⟨u2, rfl⟩ : ∃ u, f2 = u + 1 := ⟨f2 - 1, by omega⟩
    exact ⟨o, c, Y, f13, f14, H, om, lt, fr, fun K => loop_dead K hd.2.1, fun K2 => by rw [fX10_evening_L77, if_neg hd.n], Or.inl hd, (FO.refl o).two, FM.refl _⟩
  intro j
  induction j with
  | zero =>
    intro k f1 f2 o c Y f13 f14 H om lt fr hk h1 h2 hR
    rcases hR with ⟨hl, hT, op, G, D, T, N, S, h10, h11, hM, hH⟩ | hd
    · obtain ⟨u1, rfl⟩ : ∃ u, f1 = u + 1 := ⟨f1 - 1, by omega⟩
      obtain ⟨u2, rfl⟩ : ∃ u, f2 = u + 1 := ⟨f2 - 1, by omega⟩
      have h6 : om 6 = 0 := by
        obtain ⟨-, -, a, b, q1, q2, q3, -, -, -, -, ⟨-, z⟩ | ⟨z, -⟩⟩ := hT
        · exact z
        · omega
      refine ⟨o, c, Y, f13, f14, H, om, lt, fr, ?_, ?_, Or.inr (Or.inl ⟨hl, hT.at, h6, op, G, D, T, N, S, h10, hH⟩), (FO.refl o).two, FM.refl _⟩
      · intro K
        rw [fX5_read_L51, hT.1, if_pos (nI_le (by omega) (by omega))]
      · intro K2
        rw [fX10_evening_L77, if_pos hl.1, h6, if_neg (by decide)]
    · exact dead k f1 f2 o c Y f13 f14 H om lt fr (by omega) (by omega) hd
  | succ j ih =>
    intro k f1 f2 o c Y f13 f14 H om lt fr hk h1 h2 hR
    rcases hR with ⟨hl, hT, op, G, D, T, N, S, h10, h11, hM, hH⟩ | hd
    · obtain ⟨u1, rfl⟩ : ∃ u, f1 = u + 1 := ⟨f1 - 1, by omega⟩
      obtain ⟨u2, rfl⟩ : ∃ u, f2 = u + 1 := ⟨f2 - 1, by omega⟩
      have hs : (o 5 = 0 ∧ om 6 = 0) ∨ (o 5 = 3 ∧ om 6 = 59) ∨ (¬ o 5 = 0 ∧ ¬ o 5 = 3 ∧ ¬ om 6 = 0 ∧ ¬ om 6 = 59) := by
        obtain ⟨-, -, a, b, -, -, -, -, -, -, -, h12⟩ := hT
        rcases h12 with z | ⟨-, ⟨z, z', -⟩ | ⟨z, z', -⟩ | z | ⟨z, z'⟩⟩
        · exact Or.inl z
        · exact Or.inr (Or.inr ⟨by rw [z]; decide, by rw [z]; decide, by rw [z']; decide, by rw [z']; decide⟩)
        · exact Or.inr (Or.inr ⟨by rw [z]; decide, by rw [z]; decide, by rw [z']; decide, by rw [z']; decide⟩)
        · exact Or.inr (Or.inl z)
        · exact Or.inr (Or.inr ⟨by rw [z]; decide, by rw [z]; decide, by rw [z']; decide, by rw [z']; decide⟩)
      have cl0 : ∀ (K : (Nat → Int32) → Int64 → (Nat → Int64) → (Nat → Int32) → (Nat → Int32) → (Nat → Int32) → (Nat → Int32) → (Nat → Int32) → (Nat → Int32) → (Nat → Int32) → (Nat → Int32) → (Nat → Int32) → (Nat → Int32) → (Nat → Int32) → (Nat → Int32) → (Nat → Int32) → (Nat → Int32) → (Nat → Int32) → (Nat → Int32) → (Nat → Int32) → (Nat → Int32) → Option (Int32 × (Nat → Int32) × Int64 × (Nat → Int64) × (Nat → Int32) × (Nat → Int32) × (Nat → Int32) × (Nat → Int32) × (Nat → Int32) × (Nat → Int32) × (Nat → Int32) × (Nat → Int32) × (Nat → Int32) × (Nat → Int32) × (Nat → Int32) × (Nat → Int32) × (Nat → Int32) × (Nat → Int32) × (Nat → Int32) × (Nat → Int32) × (Nat → Int32) × (Nat → Int32))) R, (if o 4 ≤ nI k then K o c Y f13 f14 (H 5) (H 6) (H 7) (H 8) (H 9) (H 10) (H 11) (H 12) (H 13) (H 14) (H 15) (H 16) (H 17) (H 18) (H 19) (H 20) else ob1 (fX5_failed n o c) (fun u_30 => if u_30 = 0 then R else K o c Y f13 f14 (H 5) (H 6) (H 7) (H 8) (H 9) (H 10) (H 11) (H 12) (H 13) (H 14) (H 15) (H 16) (H 17) (H 18) (H 19) (H 20))) = R := fun K R => by
        rw [hT.1, if_neg (nI_ge (by omega) (by omega)), failed_l hl.2.1, ob1_ss, if_pos i00]
      rcases hs with ⟨s1, s2⟩ | ⟨s1, s2⟩ | ⟨s1, s2, s3, s4⟩
      · refine ⟨o, c, Y, f13, f14, H, om, lt, fr, ?_, ?_, Or.inr (Or.inl ⟨hl, hT.at, s2, op, G, D, T, N, S, h10, hH⟩), (FO.refl o).two, FM.refl _⟩
        · intro K
          rw [fX5_read_L51, cl0, if_pos s1]
        · intro K2
          rw [fX10_evening_L77, if_pos hl.1, s2, if_neg (by decide)]
      · obtain ⟨o1, c1, om1, lt1, t1, -, t2, t3, -, t5, t6, t7⟩ := take_lock hn ht hl hT
        obtain ⟨o', c', Y', a13, a14, H', om', lt', fr', e1, e2, e3, e4, e5⟩ := line_lock hn ht t3 (t7 (by rw [s1]; decide)) (t5.a10.trans h10) (t5.a11.trans h11) hM hH
        obtain ⟨o2, c2, Y2, b13, b14, H2, om2, lt2, fr2, i1, i2, i3, i4, i5⟩ := ih (k + 1) u1 u2 o' c' Y' a13 a14 H' om' lt' fr' (by omega) (by omega) (by omega) e3
        refine ⟨o2, c2, Y2, b13, b14, H2, om2, lt2, fr2, ?_, ?_, i3, (t5.two.trans e4).trans i4, (t6.trans e5).trans i5⟩
        · intro K
          rw [fX5_read_L51, cl0, if_neg (by rw [s1]; decide), fX5_takeMark, if_pos s1, t1, ob3_ss, ob2_ss, e1, ob21_ss, sI, i1]
        · intro K2
          rw [fX10_evening_L77, if_pos hl.1, s2, if_pos rfl, t2, ob2_ss, e2, ob3_ss, i2]
      · obtain ⟨d1, d2, d3⟩ := die (x := 1) (by decide) hT.at
        obtain ⟨u3, rfl⟩ : ∃ u, u1 = u + 1 := ⟨u1 - 1, by omega⟩
        refine ⟨_, c, Y, f13, f14, H, om, lt, fr, ?_, ?_, Or.inr (Or.inr ⟨hl.1, s3, d1⟩), d2.two, FM.refl _⟩
        · intro K
          rw [fX5_read_L51, cl0, if_neg s1, fX5_takeMark, if_neg s2, fail_l hl.2.1, ob3_ss, taken_d d1.2.1, ob3_ss, ob2_ss, line_d d1.2.1, ob21_ss, loop_dead K d1.2.1]
        · intro K2
          rw [fX10_evening_L77, if_pos hl.1, if_neg s4]
    · exact dead k f1 f2 o c Y f13 f14 H om lt fr (by omega) (by omega) hd
