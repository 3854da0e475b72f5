/-! one hour, a farewell, an evening to its end: what comes out, whatever lies in the rows that are used again -/
theorem NR.rect {G : Nat} {o0 w0 la0 st0 o w la st : Nat → Int32} (h0 : NR G o0 w0 la0 st0) (h1 : NR G o w la st0) (h2 : NR G o0 w0 la0 st) : NR G o w la st := by
  obtain ⟨a0, b0, c0, d0, e0, f0, g0, i0⟩ := h0
  obtain ⟨a1, b1, c1, d1, e1, f1, g1, i1⟩ := h1
  obtain ⟨a2, b2, c2, d2, e2, f2, g2, i2⟩ := h2
  have hb : ∀ g, g < G → (bt (o 1) g = true ↔ bt (o0 1) g = true) := fun g hg => (e1 g hg).trans (e0 g hg).symm
  refine ⟨a1.trans (a0.symm.trans a2), b1.trans (b0.symm.trans b2), c1, fun g hg => (d1 g hg).trans ((d0 g hg).symm.trans (d2 g hg)), fun g hg => (hb g hg).trans (e2 g hg), fun g hg h => ?_, g1, i1⟩
  have h' : bt (o0 1) g = false := by
    cases q : bt (o0 1) g with
    | false => rfl
    | true => rw [(hb g hg).mpr q] at h; exact absurd h (by decide)
  rw [f2 g hg h', ← f0 g hg h', f1 g hg h]
def encR (h : Nat) : Option Nat → Int32
  | some e => if e ≤ h then nI e else 61
  | none => 61
def encE : Option Nat → Int32
  | some e => nI e
  | none => -2
theorem run_pair {n G D c : Nat} (hn : 100 ≤ n) {ho kind sinks mate dg dr dm r : Nat → Int32} (hH : HR G D ho kind sinks mate dg dr dm r) {po : Nat → Int32} (hpo : po 0 = 0) {o w la st : Nat → Int32} (hN : NR G o w la st) (hc : st 14 = nI c) (hcb : c ≤ 100000) (wl om : Nat → Int32) :
    ∃ (E : Int32) (om' st' : Nat → Int32), fX10_endsOn n 0 om r st = some (E, om', st') ∧ (∀ k, k ≠ 22 → k ≠ 24 → om' k = om k) ∧ (E = -2 ∨ ∃ e, e ≤ 60 ∧ E = nI e) ∧
      ∀ h, h ≤ 60 → ∃ (R : Int32) (o' w' la' wl' : Nat → Int32), fX2_runOut n (nI h) o w la wl ho kind sinks mate dg dr dm po = some (R, o', w', la', wl', po) ∧ (∀ e, e ≤ h → E = nI e → R = nI e ∧ o' 5 = om' 24) ∧ ((E = -2 ∨ ∃ e, h < e ∧ e ≤ 60 ∧ E = nI e) → R = 61) := by
  obtain ⟨E, om', st', t1, t2, t3, t4⟩ := ends_lock hn hH po hpo 60 0 n n c (upd o 5 0) w la wl (upd om 24 0) st (by omega) (by omega) (by omega) (by omega) hc (hN.congr (upd_n _ _ (by decide)) (upd_n _ _ (by decide)) (upd_n _ _ (by decide)) (upd_n _ _ (by decide))) (by rw [upd_s, upd_s])
  refine ⟨E, om', st', ?_, fun k h1 h2 => (t2 k h1 h2).trans (upd_n _ _ h2), ?_, fun h hh => ?_⟩
  · rw [fX10_endsOn]; exact t1
  · rcases t3 with q | ⟨e, -, q2, q3⟩
    · exact Or.inl q
    · exact Or.inr ⟨e, q2, q3⟩
  · obtain ⟨R, o', w', la', wl', u1, u2, u3⟩ := t4 h (by omega) hh
    exact ⟨R, o', w', la', wl', by rw [fX2_runOut]; exact u1, u2, u3⟩
theorem run_spec {n G D c : Nat} (hn : 100 ≤ n) {ho kind sinks mate dg dr dm r : Nat → Int32} (hH : HR G D ho kind sinks mate dg dr dm r) {po : Nat → Int32} (hpo : po 0 = 0) {o0 w0 la0 st0 : Nat → Int32} (h0 : NR G o0 w0 la0 st0) (hc : st0 14 = nI c) (hcb : c ≤ 100000) :
    ∃ (v : Option Nat) (L : Int32), (∀ e, v = some e → e ≤ 60) ∧
      (∀ o w la wl, NR G o w la st0 → ∀ h, h ≤ 60 → ∃ o' w' la' wl', fX2_runOut n (nI h) o w la wl ho kind sinks mate dg dr dm po = some (encR h v, o', w', la', wl', po) ∧ ∀ e, v = some e → e ≤ h → o' 5 = L) ∧
      (∀ om st, NR G o0 w0 la0 st → ∃ om' st', fX10_endsOn n 0 om r st = some (encE v, om', st') ∧ (∀ k, k ≠ 22 → k ≠ 24 → om' k = om k) ∧ ∀ e, v = some e → om' 24 = L) := by
  have ne2 : ∀ e, e ≤ 60 → nI e ≠ (-2 : Int32) := by decide +kernel
  have ne61 : ∀ e, e ≤ 60 → nI e ≠ (61 : Int32) := by decide +kernel
  obtain ⟨E0, om0, s0, t1, -, t3, t4⟩ := run_pair hn hH hpo h0 hc hcb (fun _ => 0) (fun _ => 0)
  obtain ⟨R0, p0, q0, l0, v0, u1, u2, u3⟩ := t4 60 (by omega)
  have cls : ∀ o w la wl, NR G o w la st0 → ∀ h, h ≤ 60 → ∃ (R : Int32) (o' w' la' wl' : Nat → Int32), fX2_runOut n (nI h) o w la wl ho kind sinks mate dg dr dm po = some (R, o', w', la', wl', po) ∧ (∀ e, e ≤ h → E0 = nI e → R = nI e ∧ o' 5 = om0 24) ∧ ((E0 = -2 ∨ ∃ e, h < e ∧ e ≤ 60 ∧ E0 = nI e) → R = 61) := by
    intro o w la wl hN h hh
    obtain ⟨E1, om1, s1, a1, -, -, a4⟩ := run_pair hn hH hpo hN hc hcb wl (fun _ => 0)
    have e := Option.some.inj (t1.symm.trans a1)
    obtain ⟨rfl, e2⟩ := Prod.mk.inj e
    obtain ⟨rfl, -⟩ := Prod.mk.inj e2
    exact a4 h hh
  have mdl : ∀ om st, NR G o0 w0 la0 st → ∃ (E : Int32) (om' st' : Nat → Int32), fX10_endsOn n 0 om r st = some (E, om', st') ∧ (∀ k, k ≠ 22 → k ≠ 24 → om' k = om k) ∧ (E = -2 ∨ ∃ e, e ≤ 60 ∧ E = nI e) ∧ (∀ e, e ≤ 60 → E = nI e → R0 = nI e ∧ p0 5 = om' 24) ∧ (E = -2 → R0 = 61) := by
    intro om st hN
    have hc' : st 14 = nI c := by rw [← hN.1, h0.1]; exact hc
    obtain ⟨E1, om1, s1, a1, a2, a3, a4⟩ := run_pair hn hH hpo hN hc' hcb (fun _ => 0) om
    obtain ⟨R1, p1, q1, l1, v1, b1, b2, b3⟩ := a4 60 (by omega)
    have e := Option.some.inj (u1.symm.trans b1)
    obtain ⟨rfl, e2⟩ := Prod.mk.inj e
    obtain ⟨rfl, -⟩ := Prod.mk.inj e2
    exact ⟨E1, om1, s1, a1, a2, a3, b2, fun z => b3 (Or.inl z)⟩
  rcases t3 with z | ⟨e0, hz, z⟩
  · subst z
    refine ⟨none, 0, fun e h => (nomatch h), fun o w la wl hN h hh => ?_, fun om st hN => ?_⟩
    · obtain ⟨R, o', w', la', wl', c1, c2, c3⟩ := cls o w la wl hN h hh
      have := c3 (Or.inl rfl)
      subst this
      exact ⟨o', w', la', wl', c1, fun e h => (nomatch h)⟩
    · obtain ⟨E, om', st', c1, c2, c3, c4, c5⟩ := mdl om st hN
      rcases c3 with y | ⟨e, he, y⟩
      · subst y
        exact ⟨om', st', c1, c2, fun e h => (nomatch h)⟩
      · exact absurd ((c4 e he y).1.symm.trans (u3 (Or.inl rfl))) (ne61 e he)
  · subst z
    refine ⟨some e0, om0 24, fun e h => by rw [← Option.some.inj h]; exact hz, fun o w la wl hN h hh => ?_, fun om st hN => ?_⟩
    · obtain ⟨R, o', w', la', wl', c1, c2, c3⟩ := cls o w la wl hN h hh
      by_cases hle : e0 ≤ h
      · have c2' := c2 e0 hle rfl
        rw [c2'.1] at c1
        refine ⟨o', w', la', wl', by rw [encR, if_pos hle]; exact c1, fun e h1 h2 => c2'.2⟩
      · have := c3 (Or.inr ⟨e0, by omega, hz, rfl⟩)
        rw [this] at c1
        refine ⟨o', w', la', wl', by rw [encR, if_neg hle]; exact c1, fun e h1 h2 => ?_⟩
        have := Option.some.inj h1
        omega
    · obtain ⟨E, om', st', c1, c2, c3, c4, c5⟩ := mdl om st hN
      have hR := u2 e0 hz rfl
      rcases c3 with y | ⟨e, he, y⟩
      · exact absurd (hR.1.symm.trans (c5 y)) (ne61 e0 hz)
      · have q := c4 e he y
        have : e = e0 := nI_inj (by omega) (by omega) (q.1.symm.trans hR.1)
        subst this
        subst y
        exact ⟨om', st', c1, c2, fun e' h => q.2.symm.trans hR.2⟩
/-- some are sent home -/
theorem send_pair {n G D c : Nat} (hn : 10 ≤ n) {ho kind sinks mate dg dr dm r : Nat → Int32} (hH : HR G D ho kind sinks mate dg dr dm r) {who : Int32} (hwho : ∀ i, G ≤ i → i < 32 → bt who i = false) {o w la st : Nat → Int32} (hN : NR G o w la st) (hc : st 14 = nI c) (hcb : c ≤ 100000) (wl om : Nat → Int32) :
    ∃ X o' w' la' wl' om' st', fX2_dismiss n who o w la wl ho kind mate dg dr dm = some (X, o', w', la', wl') ∧ fX10_sends n who om r st = some (X, om', st') ∧ NR G o' w' la' st' ∧ st' 14 = nI c ∧ (∀ k, k ≠ 22 → om' k = om k) ∧ SET G D o' w' kind dg dr dm ∧ (∀ i, G ≤ i → i < 32 → bt X i = false) ∧ o' 2 = o 2 ∧ o' 3 = o 3 ∧ (∀ i, i < 32 → bt (o' 1) i = true → bt (o 1) i = true) ∧ st' 16 = st 16 := by
  obtain ⟨o1, w1, la1, st1, e1, e2, hN1, hc1, eo, h16⟩ := rel_goes (n := n) (om := om) hn hH hN hc (by omega) hwho
  obtain ⟨X, o', w', la', wl', om', st', f1, f2, g1, g2, g3, g4, g5, g6, g7, g8⟩ := settleS hn hH (c := c) (by omega) o1 w1 la1 wl om st1 hN1 (hc1.trans hc)
  have hsub : ∀ i, i < 32 → bt (o1 1) i = true → bt (o 1) i = true := fun i hi h => by
    rw [eo, upd_s, b_and] at h
    simp at h
    exact h.1
  refine ⟨who ||| X, o', w', la', wl', om', st', ?_, ?_, g1, g2.trans (hc1.trans hc), g4, g6, fun i h1 h2 => ?_, ?_, ?_, fun i hi h => hsub i hi (g7.2.2.1 i hi h), g7.2.2.2.2.trans h16⟩
  · rw [fX2_dismiss, e1, ob3_ss, f1, ob5_ss]
  · rw [fX10_sends, e2, ob1_ss, f2, ob3_ss]
  · rw [b_or, hwho i h1 h2, Bool.false_or]
    cases h : bt X i with
    | false => rfl
    | true =>
      exfalso
      rcases g7.2.2.2.1 i h2 h with z | z
      · rw [b_0] at z; exact absurd z (by decide)
      · have := hsub i h2 z
        rw [hN.2.2.2.2.2.2.2 i h1 h2] at this
        exact absurd this (by decide)
  · rw [g7.1, eo, upd_n _ _ (by decide)]
  · rw [g7.2.1, eo, upd_n _ _ (by decide)]
theorem send_spec {n G D c : Nat} (hn : 10 ≤ n) {ho kind sinks mate dg dr dm r : Nat → Int32} (hH : HR G D ho kind sinks mate dg dr dm r) {who : Int32} (hwho : ∀ i, G ≤ i → i < 32 → bt who i = false) {o0 w0 la0 st0 : Nat → Int32} (h0 : NR G o0 w0 la0 st0) (hc : st0 14 = nI c) (hcb : c ≤ 100000) :
    ∃ X o1 w1 la1 st1, NR G o1 w1 la1 st1 ∧ st1 14 = nI c ∧ (∀ i, G ≤ i → i < 32 → bt X i = false) ∧
      (∀ o w la wl, NR G o w la st0 → ∃ o' w' la' wl', fX2_dismiss n who o w la wl ho kind mate dg dr dm = some (X, o', w', la', wl') ∧ NR G o' w' la' st1) ∧
      (∀ om st, NR G o0 w0 la0 st → ∃ om' st', fX10_sends n who om r st = some (X, om', st') ∧ (∀ k, k ≠ 22 → om' k = om k) ∧ NR G o1 w1 la1 st') := by
  obtain ⟨X, o1, w1, la1, wl1, om1, st1, a1, a2, a3, a4, a5, a6, a7, -⟩ := send_pair hn hH hwho h0 hc hcb (fun _ => 0) (fun _ => 0)
  refine ⟨X, o1, w1, la1, st1, a3, a4, a7, fun o w la wl hN => ?_, fun om st hN => ?_⟩
  · obtain ⟨X', o', w', la', wl', om', st', b1, b2, b3, b4, b5, b6, b7, -⟩ := send_pair hn hH hwho hN hc hcb wl (fun _ => 0)
    obtain ⟨rfl, e2⟩ := Prod.mk.inj (Option.some.inj (a2.symm.trans b2))
    obtain ⟨rfl, rfl⟩ := Prod.mk.inj e2
    exact ⟨o', w', la', wl', b1, b3⟩
  · obtain ⟨X', o', w', la', wl', om', st', b1, b2, b3, b4, b5, b6, b7, -⟩ := send_pair hn hH hwho hN (c := c) (by rw [← hN.1, h0.1]; exact hc) hcb (fun _ => 0) om
    obtain ⟨rfl, e2⟩ := Prod.mk.inj (Option.some.inj (a1.symm.trans b1))
    obtain ⟨rfl, e3⟩ := Prod.mk.inj e2
    obtain ⟨rfl, e4⟩ := Prod.mk.inj e3
    obtain ⟨rfl, -⟩ := Prod.mk.inj e4
    exact ⟨om', st', b2, b5, b3⟩
/-- an hour -/
theorem pass_spec {n G D c : Nat} (hn : 10 ≤ n) {ho kind sinks mate dg dr dm r : Nat → Int32} (hH : HR G D ho kind sinks mate dg dr dm r) {po : Nat → Int32} (hpo : po 0 = 0) {o0 w0 la0 st0 : Nat → Int32} (h0 : NR G o0 w0 la0 st0) (hc : st0 14 = nI c) (hcb : c ≤ 100000) :
    ∃ X o1 w1 la1 st1, NR G o1 w1 la1 st1 ∧ st1 14 = nI (c + 1) ∧ (∀ i, i < 32 → bt X i = true → bt (o0 1) i = true) ∧
      (∀ o w la wl, NR G o w la st0 → ∃ o' w' la' wl', fX2_pass n o w la wl ho kind sinks mate dg dr dm po = some (X, o', w', la', wl', po) ∧ NR G o' w' la' st1) ∧
      (∀ om st, NR G o0 w0 la0 st → ∃ om' st', fX10_hourOf n om r st = some (X, om', st') ∧ (∀ k, k ≠ 22 → om' k = om k) ∧ NR G o1 w1 la1 st') := by
  obtain ⟨X, o1, w1, la1, wl1, om1, st1, a1, a2, a3, a4, a5, a6, a7, a8, a9, -⟩ := pass_lock hn hH (c := c) (by omega) (fun _ => 0) (fun _ => 0) po h0 hc hpo
  refine ⟨X, o1, w1, la1, st1, a3, a4, fun i hi h => (a9.2.2.2.1 i hi h).resolve_left (by rw [b_0]; decide), fun o w la wl hN => ?_, fun om st hN => ?_⟩
  · obtain ⟨X', o', w', la', wl', om', st', b1, b2, b3, b4, b5, b6, b7, -⟩ := pass_lock hn hH (c := c) (by omega) wl (fun _ => 0) po hN hc hpo
    obtain ⟨rfl, e2⟩ := Prod.mk.inj (Option.some.inj (a2.symm.trans b2))
    obtain ⟨rfl, rfl⟩ := Prod.mk.inj e2
    exact ⟨o', w', la', wl', b1, b3⟩
  · obtain ⟨X', o', w', la', wl', om', st', b1, b2, b3, b4, b5, b6, b7, -⟩ := pass_lock hn hH (c := c) (by omega) (fun _ => 0) om po hN (by rw [← hN.1, h0.1]; exact hc) hpo
    obtain ⟨rfl, e2⟩ := Prod.mk.inj (Option.some.inj (a1.symm.trans b1))
    obtain ⟨rfl, e3⟩ := Prod.mk.inj e2
    obtain ⟨rfl, e4⟩ := Prod.mk.inj e3
    obtain ⟨rfl, -⟩ := Prod.mk.inj e4
    exact ⟨om', st', b2, b6, b3⟩
/-! numbers of bits -/
theorem small7 {x : Int32} (h : ∀ i, 7 ≤ i → i < 32 → bt x i = false) : ∃ j, j < 128 ∧ x = nI j := by
  have e : x = x &&& 127 := by
    refine b_ext (fun i hi => ?_)
    rw [b_and]
    have q : ∀ i, i < 32 → bt 127 i = decide (i < 7) := by decide +kernel
    rw [q i hi]
    by_cases z : i < 7
    · simp [z]
    · rw [h i (by omega) hi]; rfl
  obtain ⟨j, hj, ej⟩ := pk_andE x (m := 127) 7 (by decide +kernel)
  exact ⟨j, hj, e.trans ej⟩
def pop (j : Nat) : Nat := j % 2 + j / 2 % 2 + j / 4 % 2 + j / 8 % 2 + j / 16 % 2 + j / 32 % 2 + j / 64 % 2
theorem pop7 : ∀ j, j < 128 → pop j ≤ 7 := by decide +kernel
theorem bitCountS (n : Nat) : ∀ j, j < 128 → fJ6_bitCount_0f7a4 n (nI j) = some (nI (pop j)) := by
  have h : ∀ j, j < 128 → fJ6_bitCount_0f7a4 0 (nI j) = some (nI (pop j)) := by decide +kernel
  exact fun j hj => (show fJ6_bitCount_0f7a4 n (nI j) = fJ6_bitCount_0f7a4 0 (nI j) from rfl).trans (h j hj)
theorem onesS {n : Nat} (hn : 10 ≤ n) : ∀ j, j < 128 → fX10_ones n (nI j) = some (nI (pop j)) := by
  intro j hj
  obtain ⟨m, rfl⟩ : ∃ m, n = m + 9 := ⟨n - 9, by omega⟩
  have b : ∀ k, k < 31 → ((nI j >>> (nI k &&& 31)) &&& (1 : Int32)) = nI (j / 2 ^ k % 2) := fun k hk => by
    have : ∀ k, k < 31 → ((nI k &&& 31).toBitVec.smod 32).toNat = k := by decide +kernel
    rw [pk_shrN (by omega) _ k (this k hk), pk_andN (by have := Nat.div_le_self j (2 ^ k); omega) 1 (by decide +kernel)]
  have s : ∀ a k, k < 8 → nI a + ((nI j >>> (nI k &&& 31)) &&& (1 : Int32)) = nI (a + j / 2 ^ k % 2) := fun a k hk => by rw [b k (by omega), addI]
  have l8 : (8 : Int32) = nI 8 := rfl
  rw [fX10_ones, lz0]
  have st : ∀ (f a k : Nat), k < 8 → fX10_ones_L4 (m + 9) (nI j) (fun x1 => some x1) (f + 1) (nI a) (nI k) = fX10_ones_L4 (m + 9) (nI j) (fun x1 => some x1) f (nI (a + j / 2 ^ k % 2)) (nI (k + 1)) := fun f a k hk => by
    rw [fX10_ones_L4, l8, if_neg (nI_ge (by omega) (by omega)), s a k hk, sI]
  rw [st (m + 8) 0 0 (by omega), st (m + 7) _ 1 (by omega), st (m + 6) _ 2 (by omega), st (m + 5) _ 3 (by omega), st (m + 4) _ 4 (by omega), st (m + 3) _ 5 (by omega), st (m + 2) _ 6 (by omega), st (m + 1) _ 7 (by omega), fX10_ones_L4, l8, if_pos (nI_le (by omega) (by omega))]
  refine congrArg some (congrArg nI ?_)
  have : j / 2 ^ 7 % 2 = 0 := by rw [Nat.div_eq_of_lt (by omega)]
  rw [this, pop]
  simp
/-- the class's count and the reference's -/
theorem counts {n G : Nat} (hn : 10 ≤ n) (hG : G ≤ 7) {x : Int32} (h : ∀ i, G ≤ i → i < 32 → bt x i = false) : ∃ j p, j < 128 ∧ x = nI j ∧ p ≤ 7 ∧ p = pop j ∧ fJ6_bitCount_0f7a4 n x = some (nI p) ∧ fX10_ones n x = some (nI p) := by
  obtain ⟨j, hj, rfl⟩ := small7 (fun i h1 h2 => h i (by omega) h2)
  exact ⟨j, pop j, hj, rfl, pop7 j hj, rfl, bitCountS n j hj, onesS hn j hj⟩
