/-! copies, and how long it lasts, by both -/
theorem copy_loop {n a b m n0 n2 : Nat} (h0 : a + m ≤ n0) (h2 : b + m ≤ n2) (hn0 : n0 < 2 ^ 30) (hn2 : n2 < 2 ^ 30) (f g : Nat → Int32) (K : (Nat → Int32) → Option (Nat → Int32)) :
    ∀ (j k fuel : Nat), k + j = m → j < fuel → fX10_copy_L3 n n0 n2 (nI a) (nI b) (nI m) f K fuel (nI k) (va_cpy f g a b k) = K (va_cpy f g a b m) := by
  intro j
  induction j with
  | zero =>
    intro k fuel hk hf
    obtain ⟨u, rfl⟩ : ∃ u, fuel = u + 1 := ⟨fuel - 1, by omega⟩
    rw [fX10_copy_L3, if_pos (nI_le (by omega) (by omega)), show k = m by omega]
  | succ j ih =>
    intro k fuel hk hf
    obtain ⟨u, rfl⟩ : ∃ u, fuel = u + 1 := ⟨fuel - 1, by omega⟩
    rw [fX10_copy_L3, if_neg (nI_ge (by omega) (by omega)), addI, addI, if_neg (ckI (k := a + k) (by omega) (by omega)), if_neg (ckI (k := b + k) (by omega) (by omega)), clI (k := b + k) (by omega), clI (k := a + k) (by omega), sI]
    have e : upd (va_cpy f g a b k) (b + k) (f (a + k)) = va_cpy f g a b (k + 1) := by
      funext i
      by_cases hi : i = b + k
      · subst hi
        rw [upd_s, va_cpy, if_pos ⟨by omega, by omega⟩, show b + k - b = k by omega]
      · rw [upd_n _ _ hi, va_cpy, va_cpy]
        by_cases q : b ≤ i ∧ i < b + k
        · rw [if_pos q, if_pos ⟨q.1, by omega⟩]
        · rw [if_neg q, if_neg (fun z => q ⟨z.1, by omega⟩)]
    rw [e]
    exact ih (k + 1) u (by omega) (by omega)
theorem copyS {n a b m n0 n2 : Nat} (hn : m < n) (h0 : a + m ≤ n0) (h2 : b + m ≤ n2) (hn0 : n0 < 2 ^ 30) (hn2 : n2 < 2 ^ 30) (f g : Nat → Int32) : fX10_copy n (nI a) (nI b) (nI m) n0 n2 f g = some (va_cpy f g a b m) := by
  rw [fX10_copy, lz0]
  have h := copy_loop (n := n) h0 h2 hn0 hn2 f g (fun x => some x) m 0 n (by omega) (by omega)
  have e : va_cpy f g a b 0 = g := by
    funext i
    rw [va_cpy, if_neg (fun q => by omega)]
  rw [e] at h
  exact h
theorem cpy_lo {f g : Nat → Int32} {m i : Nat} (h : i < m) : va_cpy f g 0 0 m i = f i := by
  rw [va_cpy, if_pos ⟨Nat.zero_le _, by omega⟩, show 0 + (i - 0) = i by omega]
/-- a night that becomes another, a row that is copied -/
theorem NR.copy {G : Nat} (hG : G ≤ 7) {o w la st : Nat → Int32} (h : NR G o w la st) (o1 w1 la1 s1 : Nat → Int32) : NR G (upd (upd (upd (upd o1 0 (o 0)) 1 (o 1)) 2 (o 2)) 3 (o 3)) (va_cpy w w1 0 0 7) (va_cpy la la1 0 0 7) (va_cpy st s1 0 0 17) := by
  obtain ⟨a, b, c, d, e, f, g, i⟩ := h
  have q1 : upd (upd (upd (upd o1 0 (o 0)) 1 (o 1)) 2 (o 2)) 3 (o 3) 1 = o 1 := rfl
  refine ⟨?_, ?_, ?_, ?_, ?_, ?_, ?_, ?_⟩
  · rw [cpy_lo (by omega), ← a]; rfl
  · rw [cpy_lo (by omega), ← b]; rfl
  · trivial
  · intro g hg; rw [cpy_lo (by omega), cpy_lo (by omega)]; exact d g hg
  · intro g hg; rw [q1, cpy_lo (by omega)]; exact e g hg
  · intro g hg; rw [q1, cpy_lo (by omega), cpy_lo (by omega)]; exact f g hg
  · intro k hg; rw [q1, cpy_lo (by omega)]; exact g k hg
  · intro k h1 h2; rw [q1]; exact i k h1 h2
theorem th0 {G : Nat} {o w la st : Nat → Int32} {n : Nat} (hn : 8 ≤ n) (hG : G ≤ 7) {om r : Nat → Int32} (hr : r 3 = nI G) (hN : NR G o w la st) : fX10_thereOf n om r st = some (o 1) := thereOfS hn hG hr hN.2.2.2.2.1 hN.2.2.2.2.2.2.2
/-- HOW LONG IT LASTS: what the reference says in 60 hours, and what the class says in h -/
theorem ends_lock {n G D : Nat} (hn : 100 ≤ n) {ho kind sinks mate dg dr dm r : Nat → Int32} (hH : HR G D ho kind sinks mate dg dr dm r) (po : Nat → Int32) (hpo : po 0 = 0) :
    ∀ (j x f1 f2 c : Nat) (o w la wl om st : Nat → Int32), x + j = 60 → j < f1 → j + 1 < f2 → c + j + 1 < 1000000 → st 14 = nI c → NR G o w la st → o 5 = om 24 →
      ∃ (E : Int32) (om' st' : Nat → Int32), fX10_endsOn_L7 n 0 r (fun o1 s1 => some ((-2 : Int32), o1, s1)) f2 (nI x) om st = some (E, om', st') ∧ (∀ k, k ≠ 22 → k ≠ 24 → om' k = om k) ∧ (E = -2 ∨ ∃ e, x ≤ e ∧ e ≤ 60 ∧ E = nI e) ∧
        ∀ h, x ≤ h → h ≤ 60 → ∃ (R : Int32) (o' w' la' wl' : Nat → Int32),
          fX2_runOut_L8 n (nI h) ho kind sinks mate dg dr dm (fun x4 o1 w1 l1 v1 p1 => if o1 1 = 0 then some (x4, o1, w1, l1, v1, p1) else some ((61 : Int32), o1, w1, l1, v1, p1)) f1 (nI x) o w la wl po = some (R, o', w', la', wl', po) ∧
          (∀ e, e ≤ h → E = nI e → R = nI e ∧ o' 5 = om' 24) ∧ ((E = -2 ∨ ∃ e, h < e ∧ e ≤ 60 ∧ E = nI e) → R = 61) := by
  have hG : G ≤ 7 := hH.1
  have hr : r 3 = nI G := hH.2.2.1
  have ne2 : ∀ e, e ≤ 60 → nI e ≠ (-2 : Int32) := by decide +kernel
  intro j
  induction j with
  | zero =>
    intro x f1 f2 c o w la wl om st hx hf1 hf2 hcb hc hN h5
    obtain ⟨a, rfl⟩ : ∃ a, f1 = a + 1 := ⟨f1 - 1, by omega⟩
    obtain ⟨b, rfl⟩ : ∃ b, f2 = b + 2 := ⟨f2 - 2, by omega⟩
    have ex : x = 60 := by omega
    subst ex
    rw [fX10_endsOn_L7, if_neg (by decide), th0 (by omega) hG hr hN, ob1_ss]
    by_cases h0 : o 1 = 0
    · rw [if_pos h0]
      refine ⟨_, _, _, rfl, fun _ _ _ => rfl, Or.inr ⟨60, by omega, by omega, rfl⟩, fun h h1 h2 => ?_⟩
      rw [fX2_runOut_L8, if_pos h0, if_pos h0]
      refine ⟨_, _, _, _, _, rfl, fun e _ he => ⟨he, h5⟩, fun q => ?_⟩
      rcases q with q | ⟨e, q1, q2, -⟩
      · exact absurd q (ne2 60 (by omega))
      · omega
    · rw [if_neg h0, if_pos (by decide), fX10_endsOn_L7, if_pos (by decide)]
      refine ⟨_, _, _, rfl, fun _ _ _ => rfl, Or.inl rfl, fun h h1 h2 => ?_⟩
      rw [fX2_runOut_L8, if_neg h0, if_pos (nI_le (by omega) (by omega)), if_neg h0]
      exact ⟨_, _, _, _, _, rfl, fun e he q => absurd q.symm (ne2 e (by omega)), fun _ => rfl⟩
  | succ j ih =>
    intro x f1 f2 c o w la wl om st hx hf1 hf2 hcb hc hN h5
    obtain ⟨a, rfl⟩ : ∃ a, f1 = a + 1 := ⟨f1 - 1, by omega⟩
    obtain ⟨b, rfl⟩ : ∃ b, f2 = b + 1 := ⟨f2 - 1, by omega⟩
    have l60 : (60 : Int32) = nI 60 := rfl
    rw [fX10_endsOn_L7, l60, if_neg (nI_nlt (by omega) (by omega)), th0 (by omega) hG hr hN, ob1_ss]
    by_cases h0 : o 1 = 0
    · rw [if_pos h0]
      refine ⟨_, _, _, rfl, fun _ _ _ => rfl, Or.inr ⟨x, by omega, by omega, rfl⟩, fun h h1 h2 => ?_⟩
      rw [fX2_runOut_L8, if_pos h0, if_pos h0]
      refine ⟨_, _, _, _, _, rfl, fun e _ he => ⟨he, h5⟩, fun q => ?_⟩
      rcases q with q | ⟨e, q1, q2, q3⟩
      · exact absurd q (ne2 x (by omega))
      · have := nI_inj (by omega) (by omega) q3
        omega
    · rw [if_neg h0, if_neg (nI_ge (by omega) (by omega)), if_pos i00]
      obtain ⟨X, o1, w1, la1, wl1, om1, st1, e1, e2, g1, g2, g3, g4, g5, g6, g7, g8⟩ := pass_lock (n := n) (by omega) hH (c := c) (by omega) wl om po hN hc hpo
      rw [e2, ob3_ss, sI]
      obtain ⟨E, om', st', t1, t2, t3, t4⟩ := ih (x + 1) a b (c + 1) (upd o1 5 X) w1 la1 wl1 (upd om1 24 X) st1 (by omega) (by omega) (by omega) (by omega) g2 (g1.congr (upd_n _ _ (by decide)) (upd_n _ _ (by decide)) (upd_n _ _ (by decide)) (upd_n _ _ (by decide))) (by rw [upd_s, upd_s])
      refine ⟨E, om', st', t1, fun k h1 h2 => (t2 k h1 h2).trans ((upd_n _ _ h2).trans (g4 k h1)), ?_, fun h h1 h2 => ?_⟩
      · rcases t3 with q | ⟨e, q1, q2, q3⟩
        · exact Or.inl q
        · exact Or.inr ⟨e, by omega, q2, q3⟩
      · rw [fX2_runOut_L8, if_neg h0]
        by_cases hh : h ≤ x
        · rw [if_pos (nI_le hh (by omega)), if_neg h0]
          refine ⟨_, _, _, _, _, rfl, fun e he q => ?_, fun _ => rfl⟩
          rcases t3 with q' | ⟨e', q1, q2, q3⟩
          · exact absurd (q.symm.trans q') (ne2 e (by omega))
          · have := nI_inj (by omega) (by omega) (q.symm.trans q3)
            omega
        · rw [if_neg (nI_ge (by omega) (by omega)), e1, ob6_ss, sI]
          exact t4 h (by omega) h2
