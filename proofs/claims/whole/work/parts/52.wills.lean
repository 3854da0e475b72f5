/-! the wills: by the lines, by the grid -/
theorem weighS {n G D : Nat} (hn : 10 ≤ n) {o want will ho kind sinks mate dg dr dm r : Nat → Int32} (hH : HR G D ho kind sinks mate dg dr dm r) :
    ∃ w', (∀ g, g < G → w' g = want g + sm (fun d => if dg d = nI g ∧ ((o 1 >>> (dr d &&& 31)) &&& (1 : Int32)) = 1 then dm d else 0) D) ∧ fX2_weigh n o want will ho dg dr dm = some w' := by
  obtain ⟨hG, h3, -, -, -, -, -, hD, h9, hl, -⟩ := hH
  rw [fX2_weigh, lz0]
  obtain ⟨w1, hw1, e1⟩ := weigh_L2S (n := n) (o := o) (want := want) hG h3 (fun f => fX2_weigh_L30 n o ho dg dr dm (fun f_t_8_x30 => some f_t_8_x30) n (nI 0) f) G 0 n will (by omega) (by omega) (fun g h => absurd h (Nat.not_lt_zero g))
  obtain ⟨w2, hw2, e2⟩ := weigh_L30S (n := n) (o := o) (want := want) (dm := dm) hG hD h3 h9 hl (fun f => some f) D 0 n w1 (by omega) (by omega) (fun g h => by rw [sm, Int32.add_zero]; exact hw1 g h)
  exact ⟨w2, hw2, e1.trans e2⟩
theorem willOf_loop {n G a : Nat} (hG : G ≤ 7) (ha : a < G) {o r st : Nat → Int32} (hr : r 3 = nI G) (K : Int32 → Option Int32) :
    ∀ (j k fuel : Nat) (x : Int32), k + j = G → j < fuel → fX10_willOf_L7 n (nI a) o r st K fuel (x + sm (fun b => if b ≠ a ∧ st (7 + b) = 0 then r (37 + 7 * a + b) else 0) k) (nI k) = K (x + sm (fun b => if b ≠ a ∧ st (7 + b) = 0 then r (37 + 7 * a + b) else 0) G) := by
  intro j
  induction j with
  | zero =>
    intro k fuel x hk hf
    obtain ⟨f, rfl⟩ : ∃ f, fuel = f + 1 := ⟨fuel - 1, by omega⟩
    rw [fX10_willOf_L7, hr, if_pos (nI_le (by omega) (by omega)), show k = G by omega]
  | succ j ih =>
    intro k fuel x hk hf
    obtain ⟨f, rfl⟩ : ∃ f, fuel = f + 1 := ⟨fuel - 1, by omega⟩
    have ihk := ih (k + 1) f x (by omega) (by omega)
    rw [sm] at ihk
    rw [fX10_willOf_L7, hr, if_neg (nI_ge (by omega) (by omega)), sI]
    by_cases e : k = a
    · subst e
      rw [if_neg (fun q => q.1 rfl), Int32.add_zero] at ihk
      rw [if_pos rfl, Int32.add_zero]
      exact ihk
    · rw [if_neg (fun q => e (nI_inj (by omega) (by omega) q)), isInS n st (by omega), ob1_ss]
      by_cases h : st (7 + k) = 0
      · rw [if_pos ⟨e, h⟩] at ihk
        rw [if_pos h, if_neg (by decide), lz37, lz7, mulI, addI, addI, if_neg (ckI (by omega) (by omega)), clI (by omega), Int32.add_assoc]
        exact ihk
      · rw [if_neg (fun q => h q.2), Int32.add_zero] at ihk
        rw [if_neg h, if_pos rfl, Int32.add_zero]
        exact ihk
theorem willOfS {n G a : Nat} (hn : 8 ≤ n) (hG : G ≤ 7) (ha : a < G) {o r st : Nat → Int32} (hr : r 3 = nI G) : fX10_willOf n (nI a) o r st = some (st a + sm (fun b => if b ≠ a ∧ st (7 + b) = 0 then r (37 + 7 * a + b) else 0) G) := by
  rw [fX10_willOf, if_neg (ckI (by omega) (by omega)), clI (by omega), lz0]
  have h := willOf_loop (n := n) hG ha (o := o) (st := st) hr (fun x => some x) G 0 n (st a) (by omega) (by omega)
  rw [sm, Int32.add_zero] at h
  exact h
/-- the two sums are one -/
theorem wills_eq {G D a : Nat} {o ho kind sinks mate dg dr dm r st w la : Nat → Int32} (hH : HR G D ho kind sinks mate dg dr dm r) (hN : NR G o w la st) (ha : a < G) :
    sm (fun d => if dg d = nI a ∧ ((o 1 >>> (dr d &&& 31)) &&& (1 : Int32)) = 1 then dm d else 0) D = sm (fun b => if b ≠ a ∧ st (7 + b) = 0 then r (37 + 7 * a + b) else 0) G := by
  obtain ⟨hG, -, -, -, -, -, -, hD, -, hl, hM⟩ := hH
  obtain ⟨-, -, -, -, hth, -, -, -⟩ := hN
  have e : sm (fun b => if b ≠ a ∧ st (7 + b) = 0 then r (37 + 7 * a + b) else 0) G = sm (fun b => sm (fun d => if b ≠ a ∧ st (7 + b) = 0 ∧ dg d = nI a ∧ dr d = nI b then dm d else 0) D) G := by
    refine sm_congr (fun b hb => ?_)
    by_cases h : b ≠ a ∧ st (7 + b) = 0
    · rw [if_pos h, hM a ha b hb (fun q => h.1 q.symm)]
      refine sm_congr (fun d _ => ?_)
      by_cases h2 : dg d = nI a ∧ dr d = nI b
      · rw [if_pos h2, if_pos ⟨h.1, h.2, h2.1, h2.2⟩]
      · rw [if_neg h2, if_neg (fun q => h2 ⟨q.2.2.1, q.2.2.2⟩)]
    · rw [if_neg h]
      exact (sm_none (fun d _ => if_neg (fun q => h ⟨q.1, q.2.1⟩))).symm
  rw [e, sm_comm]
  refine sm_congr (fun d hd => ?_)
  obtain ⟨a2, b2, ha2, hb2, hab, ea, eb⟩ := hl d hd
  by_cases h : dg d = nI a
  · have e2 : a2 = a := nI_inj (by omega) (by omega) (ea.symm.trans h)
    subst e2
    rw [sm_single (j := b2) hb2 (fun k hk hn => if_neg (fun q => hn (nI_inj (by omega) (by omega) (q.2.2.2.symm.trans eb))))]
    rw [eb]
    by_cases hc : bt (o 1) b2 = true
    · rw [if_pos ⟨h, (bit_is _ (by omega)).mpr hc⟩, if_pos ⟨fun q => hab q.symm, (hth b2 hb2).mp hc, h, rfl⟩]
    · rw [if_neg (fun q => hc ((bit_is _ (by omega)).mp q.2)), if_neg (fun q => hc ((hth b2 hb2).mpr q.2.1))]
  · rw [if_neg (fun q => h q.1)]
    exact (sm_none (fun k _ => if_neg (fun q => h q.2.2.1))).symm
