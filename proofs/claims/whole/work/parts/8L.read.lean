/-! the reading of a text, and evening: class and reference together -/
theorem read_lock {n L : Nat} (hn : 1000 ≤ n) {tp mt : Nat → Int32} (ht : TAPE L tp mt) (o f13 f14 : Nat → Int32) (c : Int64) (Y : Nat → Int64) (H : Nat → Nat → Int32) {om lt fr : Nat → Int32} (h3 : om 3 = nI L) (h5 : om 5 = 0) (h9 : om 9 = 0) (h13 : om 13 = 0) (hz : ∀ i, i < 266 → fr i = 0) :
    ∃ v o' c' Y' a13 a14 H' om' lt' fr', fX5_read n (nI L) o c tp Y f13 f14 (H 5) (H 6) (H 7) (H 8) (H 9) (H 10) (H 11) (H 12) (H 13) (H 14) (H 15) (H 16) (H 17) (H 18) (H 19) (H 20) = some (v, o', c', Y', a13, a14, H' 5, H' 6, H' 7, H' 8, H' 9, H' 10, H' 11, H' 12, H' 13, H' 14, H' 15, H' 16, H' 17, H' 18, H' 19, H' 20) ∧ (∃ u8 u9 u11 u12 u13, fX10_next n om mt lt = some (u8, u9) ∧ fX10_readLine n u8 mt u9 fr = some (u11, u12, u13) ∧ ∀ K2, fX10_evening_L77 n mt K2 n u11 u12 u13 = K2 om' lt' fr') ∧ FM om om' ∧ ((v = 1 ∧ om' 13 = 0 ∧ om' 6 = 0 ∧ o' 2 = 0 ∧ om' 9 = 0 ∧ ∃ G D T N S, 1 ≤ G ∧ RH true G D T N S H' fr') ∨ (v = 0 ∧ DEAD o' om') ∨ (v = 0 ∧ om' 13 = 0 ∧ ¬ om' 6 = 0 ∧ DEAD o' (upd (upd (upd om' 13 1) 9 1) 10 (om' 4))) ∨ (v = 0 ∧ om' 13 = 0 ∧ om' 6 = 0 ∧ (fr' 1 = 0 ∨ (¬ fr' 1 = 0 ∧ fr' 3 = 0)) ∧ DEAD o' (upd (upd (upd om' 13 1) 9 6) 10 (om' 4)))) := by
  have hL := ht.1
  have hLi : (if (800 : Int32) < nI L then (800 : Int32) else nI L) = nI L := if_neg (show ¬ nI 800 < nI L from nI_nlt hL (by omega))
  obtain ⟨o1, c1, om1, lt1, s1, s2, s3, s4, s5⟩ := step_lock (b := 0) (o := (upd (upd (upd (upd (upd (upd o 2 0) 3 (-1)) 4 (nI L)) 7 0) 10 0) 11 0)) (c := c) (lt := lt) hn ht.1 ht.2.1 ht.2.2 (by omega) rfl h3 rfl h5
  have hl : LIVE o1 om1 := ⟨(s5 13 (by decide) (by decide) (by decide) (by decide) (by decide)).trans h13, (s4 2 (by decide) (by decide) (by decide) (by decide)).trans rfl, (s5 9 (by decide) (by decide) (by decide) (by decide) (by decide)).trans h9⟩
  have nu : ∀ s, ¬ usd 0 0 0 s := fun s h => by unfold usd at h; omega
  have hM : NAM 0 0 0 Y f13 f14 fr := ⟨by omega, by omega, by omega, fun s _ h => absurd h (nu s), fun s hs _ => hz _ (by omega), fun i h => absurd h (by omega), fun s _ _ _ h => absurd h (nu s)⟩
  have hH : RH false 0 0 0 0 0 (va_up (va_up H 5 (upd (upd (upd (upd (H 5) 3 0) 8 0) 9 0) 13 0)) 15 (upd (upd (H 15) 0 0) 3 0)) fr := ⟨⟨by omega, by omega, by omega, by omega, by omega, rfl, hz 3 (by omega), rfl, hz 5 (by omega), rfl, hz 6 (by omega), rfl, hz 7 (by omega), rfl, hz 8 (by omega), (hz 4 (by omega)).symm⟩, ⟨fun q => absurd q (by decide), fun _ => hz 1 (by omega)⟩, fun _ h => absurd h (Nat.not_lt_zero _), ⟨fun _ h => absurd h (Nat.not_lt_zero _), fun _ h => absurd h (Nat.not_lt_zero _), fun g _ hg => hz _ (by omega)⟩, ⟨fun _ h => absurd h (Nat.not_lt_zero _), fun _ h => absurd h (Nat.not_lt_zero _), fun _ h => absurd h (Nat.not_lt_zero _), fun a ha b hb _ => hz _ (by omega)⟩, fun _ h => absurd h (Nat.not_lt_zero _), fun _ h => absurd h (Nat.not_lt_zero _), fun _ h => absurd h (Nat.not_lt_zero _), fun _ => ⟨rfl, rfl, rfl, rfl, rfl⟩⟩
  obtain ⟨o2, c2, Y2, b13, b14, H2, om2, lt2, fr2, e1, e2, e3, -, e5⟩ := line_lock hn ht hl s3 ((s4 10 (by decide) (by decide) (by decide) (by decide)).trans rfl) ((s4 11 (by decide) (by decide) (by decide) (by decide)).trans rfl) hM hH
  obtain ⟨o', c', Y', a13, a14, H', om', lt', fr', i1, i2, i3, -, i5⟩ := loop_lock hn ht L 0 n n o2 c2 Y2 b13 b14 H2 om2 lt2 fr2 (by omega) (by omega) (by omega) e3
  have e1' : fX5_readLine n o1 c1 tp Y f13 f14 (upd (upd (upd (upd (H 5) 3 0) 8 0) 9 0) 13 0) (H 6) (H 7) (H 8) (H 9) (H 10) (H 11) (H 12) (H 13) (H 14) (upd (upd (H 15) 0 0) 3 0) (H 16) (H 17) (H 18) (H 19) (H 20) = some (o2, c2, Y2, b13, b14, H2 5, H2 6, H2 7, H2 8, H2 9, H2 10, H2 11, H2 12, H2 13, H2 14, H2 15, H2 16, H2 17, H2 18, H2 19, H2 20) := e1
  have fm : FM om om' := FM.trans (FM.trans (fun k h1 h2 h3 h4 h5 _ _ _ => s5 k h1 h2 h3 h4 h5) e5) i5
  have rf : ∃ u8 u9 u11 u12 u13, fX10_next n om mt lt = some (u8, u9) ∧ fX10_readLine n u8 mt u9 fr = some (u11, u12, u13) ∧ ∀ K2, fX10_evening_L77 n mt K2 n u11 u12 u13 = K2 om' lt' fr' := ⟨om1, lt1, om2, lt2, fr2, s2, e2, i2⟩
  have i1' : ∀ K, fX5_read_L51 n tp K n 0 o2 c2 Y2 b13 b14 (H2 5) (H2 6) (H2 7) (H2 8) (H2 9) (H2 10) (H2 11) (H2 12) (H2 13) (H2 14) (H2 15) (H2 16) (H2 17) (H2 18) (H2 19) (H2 20) = K o' c' Y' a13 a14 (H' 5) (H' 6) (H' 7) (H' 8) (H' 9) (H' 10) (H' 11) (H' 12) (H' 13) (H' 14) (H' 15) (H' 16) (H' 17) (H' 18) (H' 19) (H' 20) := i1
  have dd : ¬ o' 2 = 0 → fX5_read n (nI L) o c tp Y f13 f14 (H 5) (H 6) (H 7) (H 8) (H 9) (H 10) (H 11) (H 12) (H 13) (H 14) (H 15) (H 16) (H 17) (H 18) (H 19) (H 20) = some (0, o', c', Y', a13, a14, H' 5, H' 6, H' 7, H' 8, H' 9, H' 10, H' 11, H' 12, H' 13, H' 14, H' 15, H' 16, H' 17, H' 18, H' 19, H' 20) := fun h => by
    rw [fX5_read, fX1_clear, ob2_ss, hLi, s1, ob2_ss, e1', ob21_ss, i1', failed_d h, ob1_ss, if_neg i10, ob1_ss, if_neg i10]
  rcases i3 with hd | ⟨l1, l2, l3, op, G, D, T, N, S, -, l5⟩ | ⟨d1, d2, d3⟩
  · exact ⟨0, o', c', Y', a13, a14, H', om', lt', fr', dd hd.2.1, rf, fm, Or.inr (Or.inl ⟨rfl, hd⟩)⟩
  · have h53 : H' 5 3 = nI G := l5.1.2.2.2.2.2.1
    have f3 : fr' 3 = nI G := l5.1.2.2.2.2.2.2.1
    have hG7 : G ≤ 7 := l5.1.1
    by_cases q : G = 0
    · subst q
      obtain ⟨d1, d2, d3⟩ := die (x := 6) (by decide) l2
      refine ⟨0, _, c', Y', a13, a14, H', om', lt', fr', ?_, rf, fm, Or.inr (Or.inr (Or.inr ⟨rfl, l1.1, l3, ?_, d1⟩))⟩
      · rw [fX5_read, fX1_clear, ob2_ss, hLi, s1, ob2_ss, e1', ob21_ss, i1', failed_l l1.2.1, ob1_ss, if_pos i00, if_pos (show H' 5 3 = 0 from h53), fail_l l1.2.1, ob3_ss, failed_d d1.2.1, ob1_ss, if_neg i10]
      · by_cases z : fr' 1 = 0
        · exact Or.inl z
        · exact Or.inr ⟨z, f3⟩
    · have hop : op = true := by
        cases op with
        | true => rfl
        | false => exact absurd (l5.2.2.2.2.2.2.2.2 rfl).1 q
      subst hop
      have n3 : ¬ H' 5 3 = 0 := by rw [h53]; exact fun e => q (nI_inj (b := 0) (by omega) (by omega) e)
      refine ⟨1, o', c', Y', a13, a14, H', om', lt', fr', ?_, rf, fm, Or.inl ⟨rfl, l1.1, l3, l1.2.1, l1.2.2, G, D, T, N, S, by omega, l5⟩⟩
      rw [fX5_read, fX1_clear, ob2_ss, hLi, s1, ob2_ss, e1', ob21_ss, i1', failed_l l1.2.1, ob1_ss, if_pos i00, if_neg n3, ob1_ss, if_pos i00]
  · exact ⟨0, o', c', Y', a13, a14, H', om', lt', fr', dd d3.2.1, rf, fm, Or.inr (Or.inr (Or.inl ⟨rfl, d1, d2, d3⟩))⟩
theorem INV.read {n : Nat} {X X' : Nat → Nat → Int32} {Y Y' : Nat → Int64} {c c' : Int64} {P : Nat → Nat → Nat → Int32} {M M' : Nat → Nat → Int32} (h : INV n X Y c P M) (hX : ∀ k ∈ core, k ≠ 1 → X' k = X k) (h3 : X' 0 3 = X 0 3) (h11 : X' 0 11 = X 0 11) (h4 : X' 0 4 = M' 0 11) (h45 : X' 45 0 = X 45 0) (h46 : X' 46 0 = X 46 0) (q1 : X' 1 1 = 0) (q2 : M' 0 2 = 0) (q3 : X' 1 2 = M' 0 9) (q4 : X' 1 3 = M' 0 10)
    (hM : M' 1 = M 1 ∧ M' 15 = M 15 ∧ M' 17 = M 17 ∧ M' 18 = M 18 ∧ M' 19 = M 19) (hO : M' 0 14 = M 0 14 ∧ M' 0 20 = M 0 20 ∧ M' 0 21 = M 0 21) : INV n X' Y' c' P M' := by
  have e : ∀ k, k ∈ core → k ≠ 1 → X' k = X k := hX
  obtain ⟨a1, ⟨T, t1, t2, t3, t4⟩, a3, a4, a5, a6, a7⟩ := h
  obtain ⟨m1, m15, m17, m18, m19⟩ := hM
  obtain ⟨o14, o20, o21⟩ := hO
  have e2 := e 2 (by decide) (by decide); have e5 := e 5 (by decide) (by decide); have e6 := e 6 (by decide) (by decide); have e7 := e 7 (by decide) (by decide); have e8 := e 8 (by decide) (by decide); have e9 := e 9 (by decide) (by decide); have e10 := e 10 (by decide) (by decide); have e11 := e 11 (by decide) (by decide); have e12 := e 12 (by decide) (by decide); have e13 := e 13 (by decide) (by decide); have e14 := e 14 (by decide) (by decide); have e15 := e 15 (by decide) (by decide); have e16 := e 16 (by decide) (by decide); have e17 := e 17 (by decide) (by decide); have e18 := e 18 (by decide) (by decide); have e19 := e 19 (by decide) (by decide); have e20 := e 20 (by decide) (by decide); have e37 := e 37 (by decide) (by decide); have e38 := e 38 (by decide) (by decide); have e39 := e 39 (by decide) (by decide); have e47 := e 47 (by decide) (by decide); have e48 := e 48 (by decide) (by decide); have e49 := e 49 (by decide) (by decide); have e55 := e 55 (by decide) (by decide); have e56 := e 56 (by decide) (by decide); have e57 := e 57 (by decide) (by decide); have e63 := e 63 (by decide) (by decide); have e64 := e 64 (by decide) (by decide)
  refine ⟨h4, ⟨0, by omega, q1, q2, fun i hi => absurd hi (Nat.not_lt_zero i)⟩, q3, fun _ => q4, h45.trans a5, h46.trans a6, ?_⟩
  rcases a7 with ⟨b1, b2, b3⟩ | ⟨b1, b2, b3⟩
  · refine Or.inl ⟨h3.trans b1, o14.trans b2, ?_⟩
    rw [m15, m17, m18, m19, h11, o20, o21]
    obtain ⟨G, D, T', N, S, nx, u, v, c1, c2, c3, c4, c5, c6, c7, c8, c9, c10, c11, c12, c13⟩ := b3
    refine ⟨G, D, T', N, S, nx, u, v, ?_, ?_, ?_, c4, c5, ?_, ?_, c8, ?_, c10, c11, c12, ?_⟩
    · unfold HX at c1 ⊢
      rw [e5, e6, e7, e8, e9, e10, e11, e12, e13, e14, e15, e16, e17, e18, e19, e20]
      exact c1
    · rw [e6, e10, e11, e12, e37, e38, e39]; exact c2
    · rw [e48, e49, e55, e56, e57, e63, e64]; exact c3
    · rw [e47]; exact c6
    · rw [e47]; exact c7
    · rw [e6, e10, e11, e12]; exact c9
    · rw [e6, e10, e11, e12]; exact c13
  · refine Or.inr ⟨h3.trans b1, o14.trans b2, ?_⟩
    rw [h11, o20, o21]
    obtain ⟨c1, c2, c3, c4, c5, c6, c7, c8, c9, c10, c11⟩ := b3
    exact ⟨by rw [e5]; exact c1, by rw [e15]; exact c2, by rw [e37]; exact c3, by rw [e47]; exact c4, by rw [e47]; exact c5, c6, c7, c8, by rw [e48]; exact c9, by rw [e55]; exact c10, by rw [e63]; exact c11⟩
/-- told and spare exchanged -/
def swX (sw : Bool) (X : Nat → Nat → Int32) : Nat → Nat → Int32 := fun k => if sw = true then (if 5 ≤ k ∧ k ≤ 20 then X (k + 16) else if 21 ≤ k ∧ k ≤ 36 then X (k - 16) else X k) else X k
/-- no byte of the tape is -1 -/
def TBs (X : Nat → Nat → Int32) : Prop := ∀ T, T ≤ 800 → X 1 1 = nI T → ∀ i, i < T → X 2 i ≠ -1
theorem RH.fr {op : Bool} {G D T N S : Nat} {H : Nat → Nat → Int32} {fr r : Nat → Int32} (h : RH op G D T N S H fr) (e : ∀ i, i < 266 → r i = fr i) : RH op G D T N S H r := by
  obtain ⟨⟨c1, c2, c3, c4, c5, c6, c7, c8, c9, c10, c11, c12, c13, c14, c15, c16⟩, hE, hg, hp, hw, htl, hnd, hsi, z⟩ := h
  exact ⟨⟨c1, c2, c3, c4, c5, c6, (e 3 (by omega)).trans c7, c8, (e 5 (by omega)).trans c9, c10, (e 6 (by omega)).trans c11, c12, (e 7 (by omega)).trans c13, c14, (e 8 (by omega)).trans c15, c16.trans (e 4 (by omega)).symm⟩, hE.cg rfl rfl rfl (fun i hi => e i (by omega)), hg.cg (fun _ _ => ⟨rfl, rfl, rfl⟩) (fun g hg j hj => e _ (by omega)), hp.cg c1 (fun _ _ => rfl) (fun g hg => e _ (by omega)), hw.cg (fun _ _ => ⟨rfl, rfl, rfl⟩) (fun i h1 h2 => e i (by omega)), htl.cg c3 (fun _ _ => ⟨rfl, rfl⟩) (fun i h1 h2 => e i (by omega)), hnd.cg c4 (fun _ _ => ⟨rfl, rfl⟩) (fun i h1 h2 => e i (by omega)), hsi.cg c5 (fun _ _ => ⟨rfl, rfl, rfl⟩) (fun i h1 h2 => e i (by omega)), z⟩
/-- the start of an evening is led: who has come wants to stay -/
theorem start_led {n G D T N S : Nat} (hn : 100 ≤ n) {H : Nat → Nat → Int32} {r om : Nat → Int32} (hX : HX G D T N S H r) (o w la st : Nat → Int32) : ∃ o' w' la' st', fX2_begin n o w la (H 5) (H 7) = some (o', w', la') ∧ fX10_layTold n om r st = some st' ∧ LED G D T (H 6) (H 10) (H 11) (H 12) o' w' la' st' := by
  have hG := hX.1.1
  obtain ⟨o1, w1, l1, a1, a2, a3, a4, a5, a6, a7⟩ := beginS (n := n) (o := o) (w := w) (la := la) (fw := H 7) (by omega) hG hX.1.2.1
  obtain ⟨s1, b1, b2⟩ := layS (n := n) (om := om) hn hG hX.1.2.2.1 st
  have bD : D ≤ 8 := hX.1.2.2.2.2.2.2.2.1
  obtain ⟨-, -, -, -, -, x0, -, -, -, -, -, -, -, -, -, ⟨k0, k01, k02⟩, -, -, -, x7, bw, -, -, -, bd, -⟩ := id hX
  have bw' : ∀ g, g < G → ∃ k : Nat, 1 ≤ k ∧ k ≤ 99 ∧ w1 g = nI k := fun g hg => by
    obtain ⟨k, k1, k2, k3⟩ := bw g hg
    exact ⟨k, k1, k2, by rw [a6 g hg, x7 g hg, k3]⟩
  have s14 : s1 14 = nI 0 := by rw [b2 14 (by omega), stS, if_neg (by omega), if_neg (by decide)]; rfl
  have s15 : s1 15 = nI k0 := by rw [b2 15 (by omega), stS, if_neg (by omega), if_pos rfl]; exact k02
  have s16 : s1 16 = 0 := by rw [b2 16 (by omega), stS, if_neg (by omega), if_neg (by decide)]
  refine ⟨o1, w1, l1, s1, a1, b1, (qS_nr hX).cg hG a2 a3 a4 a6 a7 (fun i hi => b2 i (by omega)), fun g hg => ?_, by rw [a5, s16], fun i _ _ => by rw [s16]; exact b_0 i, 0, k0, by omega, k01, s14, s15, fun g hg _ => ?_⟩
  · obtain ⟨k, k1, k2, k3⟩ := bw' g hg
    have b := wsum_bd bD bd o1 (H 10) (H 11) g
    have nl : ¬ w1 g + wsum D o1 (H 10) (H 11) (H 12) g ≤ 0 := by
      have z : (0 : Int32).toInt = 0 := by decide
      have e : (w1 g).toInt = (k : Int) := by rw [k3]; exact nI_toInt (by omega)
      have a : (w1 g + wsum D o1 (H 10) (H 11) (H 12) g).toInt = (w1 g).toInt + (wsum D o1 (H 10) (H 11) (H 12) g).toInt := by
        rw [Int32.toInt_add]; exact Int.bmod_eq_of_le (by omega) (by omega)
      rw [Int32.le_iff_toInt_le, a, z]
      omega
    rw [decide_eq_false nl, Bool.and_false, Bool.false_and]
  · obtain ⟨k, k1, k2, k3⟩ := bw' g hg
    have e : (w1 g).toInt = (k : Int) := by rw [k3]; exact nI_toInt (by omega)
    omega
