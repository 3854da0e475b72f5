/-! what the asking calls share -/
theorem asked_y {n : Nat} {o : Nat → Int32} (h : o 3 = 1) : fX9_asked n o = some (1, upd o 4 0) := by
  rw [fX9_asked, h, if_neg i10, if_neg (fun q => q (Or.inr rfl))]
theorem asked_n {n : Nat} {o : Nat → Int32} (h : o 3 = 0) : fX9_asked n o = some (0, upd o 4 1) := by
  rw [fX9_asked, h, if_pos rfl, if_neg (fun q => q (Or.inl rfl))]
theorem core_up {X X0 : Nat → Nat → Int32} {j : Nat} {v : Nat → Int32} (hj : j ∉ core) (h : ∀ k ∈ core, X k = X0 k) : ∀ k ∈ core, va_up X j v k = X0 k := fun k hk => by
  rw [va_up, if_neg (show ¬ k = j from fun e => hj (by rw [← e]; exact hk))]; exact h k hk
/-- a row of the core that is as it was -/
theorem core_eq {X X0 : Nat → Nat → Int32} {j : Nat} {v : Nat → Int32} (hv : v = X0 j) (h : ∀ k ∈ core, X k = X0 k) : ∀ k ∈ core, va_up X j v k = X0 k := fun k hk => by
  rw [va_up]
  by_cases e : k = j
  · rw [if_pos e, hv, e]
  · rw [if_neg e]; exact h k hk
/-- a call that asks: the answer of trouble is t on both sides -/
theorem INV.ask {n : Nat} {X X' : Nat → Nat → Int32} {Y Y' : Nat → Int64} {c c' : Int64} {P : Nat → Nat → Nat → Int32} {M M' : Nat → Nat → Int32} (h : INV n X Y c P M) (t : Int32) (ht : t ≠ 4) (x3 : X' 0 3 = X 0 3) (x11 : X' 0 11 = X 0 11) (x4 : X' 0 4 = t) (hX : ∀ k ∈ core, X' k = X k) (h45 : X' 45 0 = X 45 0) (h46 : X' 46 0 = X 46 0)
    (hM : M' 1 = M 1 ∧ M' 15 = M 15 ∧ M' 17 = M 17 ∧ M' 18 = M 18 ∧ M' 19 = M 19) (m11 : M' 0 11 = t) (hO : M' 0 2 = M 0 2 ∧ M' 0 9 = M 0 9 ∧ M' 0 10 = M 0 10 ∧ M' 0 14 = M 0 14 ∧ M' 0 20 = M 0 20 ∧ M' 0 21 = M 0 21) : INV n X' Y' c' P M' := 
  h.keep hX x3 x11 (x4.trans m11.symm) (fun q => absurd (x4.symm.trans q) ht) h45 h46 hM hO
theorem good14 {o : Nat → Int32} (k : Nat) (h0 : k ≠ 0) (h1 : k ≠ 11) : upd (upd o 0 0) 11 0 k = o k := by rw [upd_n _ _ h1, upd_n _ _ h0]
/-- how long it lasts as it is -/
theorem now_lock {n G D c : Nat} (hn : 100 ≤ n) {ho kind sinks mate dg dr dm r : Nat → Int32} (hH : HR G D ho kind sinks mate dg dr dm r) {o w la st po : Nat → Int32} (hN : NR G o w la st) (hc : st 14 = nI c) (hcb : c ≤ 1000) (hpo : po 0 = 0) (ox t0 tw tl twl om tr : Nat → Int32) :
    ∃ E R o' w' la' wl' om' st', fX9_endsAsIs n ox ho kind sinks mate dg dr dm o w la t0 tw tl twl po = some (R, o', w', la', wl', po) ∧ fX10_endsNow n om r st tr = some (E, om', st') ∧ (∀ k, k ≠ 22 → k ≠ 24 → om' k = om k) ∧
      ((∃ e, e ≤ 60 ∧ E = nI e ∧ R = nI e ∧ o' 5 = om' 24) ∨ (E = -2 ∧ R = 61)) := by
  have hG : G ≤ 7 := hH.1
  have hNc := hN.copy hG t0 tw tl tr
  obtain ⟨E, om', st', t1, t2, t3, t4⟩ := ends_lock hn hH po hpo 60 0 n n c (upd (upd (upd (upd (upd t0 0 (o 0)) 1 (o 1)) 2 (o 2)) 3 (o 3)) 5 0) (va_cpy w tw 0 0 7) (va_cpy la tl 0 0 7) twl (upd om 24 0) (va_cpy st tr 0 0 17) (by omega) (by omega) (by omega) (by omega) (by rw [cpy_lo (by omega)]; exact hc) (hNc.congr (upd_n _ _ (by decide)) (upd_n _ _ (by decide)) (upd_n _ _ (by decide)) (upd_n _ _ (by decide))) (by rw [upd_s, upd_s])
  obtain ⟨R, o', w', la', wl', u1, u2, u3⟩ := t4 60 (by omega) (by omega)
  refine ⟨E, R, o', w', la', wl', om', st', ?_, ?_, fun k h1 h2 => (t2 k h1 h2).trans (upd_n _ _ h2), ?_⟩
  · rw [fX9_endsAsIs, fX2_become, ob3_ss, fX2_runOut]
    show ob6 (fX2_runOut_L8 n (nI 60) ho kind sinks mate dg dr dm _ n (nI 0) _ _ _ _ _) _ = _
    rw [u1, ob6_ss]
  · rw [fX10_endsNow]
    show ob1 (fX10_copy n (nI 0) (nI 0) (nI 17) 17 17 st tr) _ = _
    rw [copyS (by omega) (by omega) (by omega) (by omega) (by omega), ob1_ss, fX10_endsOn]
    show ob3 (fX10_endsOn_L7 n 0 r _ n (nI 0) _ _) _ = _
    rw [t1, ob3_ss]
  · rcases t3 with q | ⟨e, q1, q2, q3⟩
    · exact Or.inr ⟨q, u3 (Or.inl q)⟩
    · exact Or.inl ⟨e, q2, q3, u2 e q2 q3⟩
theorem orNotS {n e : Nat} (he : e ≤ 60) : fX9_orNot n (nI e) = some (nI e) := by
  rw [fX9_orNot, show (60 : Int32) = nI 60 from rfl, if_pos (nI_le he (by omega))]
theorem orNot61 {n : Nat} : fX9_orNot n 61 = some (-2) := by rw [fX9_orNot, if_neg (by decide)]
