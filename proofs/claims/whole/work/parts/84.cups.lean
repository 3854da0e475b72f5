/-! the cups: shares one by one, by both -/
def cv (a : Nat) : Int32 := nI a - 1
def mv (a : Nat) : Int32 := if a = 62 then 1000000 else nI a - 1
theorem cv_le : ∀ a, a ≤ 62 → ∀ b, b ≤ 62 → (cv a ≤ cv b ↔ a ≤ b) := by decide +kernel
theorem cv_lt : ∀ a, a ≤ 62 → ∀ b, b ≤ 62 → (cv a < cv b ↔ a < b) := by decide +kernel
theorem mv_lt : ∀ a, a ≤ 62 → ∀ b, b ≤ 62 → (mv a < mv b ↔ a < b) := by decide +kernel
theorem cv_60 : ∀ a, a ≤ 62 → (cv a ≤ 60 ↔ a ≤ 61) := by decide +kernel
theorem mv_h : ∀ a, a ≤ 62 → ∀ h, h ≤ 60 → (mv a < nI h ↔ cv a < nI h) := by decide +kernel
theorem cv_62 : ∀ h, h ≤ 60 → ¬ cv 62 < nI h := by decide +kernel
theorem mv_ne : ∀ a, a ≤ 61 → ¬ mv a = 1000000 := by decide +kernel
theorem mv_big : ∀ a, a ≤ 61 → ¬ (1000000 : Int32) ≤ mv a := by decide +kernel
theorem cv_s : ∀ e, e ≤ 60 → cv (e + 1) = nI e ∧ mv (e + 1) = nI e := by decide +kernel
def evn : Option Nat → Nat
  | some e => e + 1
  | none => 62
theorem evn_le {v : Option Nat} (hv : ∀ e, v = some e → e ≤ 60) : 1 ≤ evn v ∧ evn v ≤ 62 ∧ encR 60 v = cv (evn v) ∧ ((encE v = mv (evn v) ∧ 0 ≤ encE v) ∨ (mv (evn v) = 1000000 ∧ ¬ 0 ≤ encE v)) := by
  cases v with
  | none => exact ⟨by decide, by decide, rfl, Or.inr ⟨rfl, by decide⟩⟩
  | some e =>
    have := hv e rfl
    refine ⟨by simp [evn], by simp [evn]; omega, ?_, Or.inl ⟨?_, nI_pos' (by omega)⟩⟩
    · rw [encR, if_pos this]; exact (cv_s e this).1.symm
    · exact (cv_s e this).2.symm
theorem shW_c {n G : Nat} (hG : G ≤ 7) {x4 : Int32} {o f4 t0 ho : Nat → Int32} (h3 : ho 3 = nI G) (w0 : Nat → Int32) (K : (Nat → Int32) → Option ((Nat → Int32) × (Nat → Int32) × (Nat → Int32) × (Nat → Int32) × (Nat → Int32) × (Nat → Int32) × (Nat → Int32) × (Nat → Int32))) :
    ∀ (j k f : Nat) (w : Nat → Int32), k + j = G → j < f → (∀ g, w g = if g < k then w0 g + f4 g * ho 1 else w0 g) → ∃ w', (∀ g, w' g = if g < G then w0 g + f4 g * ho 1 else w0 g) ∧ fX0_weighShare_L11 n x4 o f4 t0 ho K f (nI k) w = K w' := by
  intro j
  induction j with
  | zero =>
    intro k f w hk hf hw
    obtain ⟨u, rfl⟩ : ∃ u, f = u + 1 := ⟨f - 1, by omega⟩
    have e : k = G := by omega
    subst e
    exact ⟨w, hw, by rw [fX0_weighShare_L11, h3, if_pos (nI_le (by omega) (by omega))]⟩
  | succ j ih =>
    intro k f w hk hf hw
    obtain ⟨u, rfl⟩ : ∃ u, f = u + 1 := ⟨f - 1, by omega⟩
    rw [fX0_weighShare_L11, h3, if_neg (nI_ge (by omega) (by omega)), if_neg (ckI (by omega) (by omega)), if_neg (ckI (by omega) (by omega)), if_neg (ckI (by omega) (by omega)), clI (by omega), sI]
    refine ih (k + 1) u _ (by omega) (by omega) (fun g => ?_)
    by_cases e : g = k
    · subst e; rw [upd_s, hw g, if_neg (Nat.lt_irrefl g), if_pos (Nat.lt_succ_self g)]
    · rw [upd_n _ _ e, hw g]
      by_cases q : g < k
      · rw [if_pos q, if_pos (by omega)]
      · rw [if_neg q, if_neg (by omega)]
theorem shW_m {n G : Nat} (hG : G ≤ 7) {rc : Int32 → Int32 → (Nat → Int32) → (Nat → Int32) → (Nat → Int32) → (Nat → Int32) → (Nat → Int32) → (Nat → Int32) → Option ((Nat → Int32) × (Nat → Int32) × (Nat → Int32) × (Nat → Int32))} {om cu r : Nat → Int32} (h3 : r 3 = nI G) (s0 : Nat → Int32) (K : (Nat → Int32) → Option ((Nat → Int32) × (Nat → Int32) × (Nat → Int32) × (Nat → Int32))) :
    ∀ (j k f : Nat) (s : Nat → Int32), k + j = G → j < f → (∀ g, s g = if g < k then s0 g + cu g * r 1 else s0 g) → ∃ s', (∀ g, s' g = if g < G then s0 g + cu g * r 1 else s0 g) ∧ fX10_tryCups_L42 n rc om r cu K f (nI k) s = K s' := by
  intro j
  induction j with
  | zero =>
    intro k f w hk hf hw
    obtain ⟨u, rfl⟩ : ∃ u, f = u + 1 := ⟨f - 1, by omega⟩
    have e : k = G := by omega
    subst e
    exact ⟨w, hw, by rw [fX10_tryCups_L42, h3, if_pos (nI_le (by omega) (by omega))]⟩
  | succ j ih =>
    intro k f w hk hf hw
    obtain ⟨u, rfl⟩ : ∃ u, f = u + 1 := ⟨f - 1, by omega⟩
    rw [fX10_tryCups_L42, h3, if_neg (nI_ge (by omega) (by omega)), if_neg (ckI (by omega) (by omega)), if_neg (ckI (by omega) (by omega)), if_neg (ckI (by omega) (by omega)), clI (by omega), sI]
    refine ih (k + 1) u _ (by omega) (by omega) (fun g => ?_)
    by_cases e : g = k
    · subst e; rw [upd_s, hw g, if_neg (Nat.lt_irrefl g), if_pos (Nat.lt_succ_self g)]
    · rw [upd_n _ _ e, hw g]
      by_cases q : g < k
      · rw [if_pos q, if_pos (by omega)]
      · rw [if_neg q, if_neg (by omega)]
/-- a share is weighed: class, and both uses of the reference -/
theorem leafC {n G D T N S : Nat} (hn : 100 ≤ n) {X M : Nat → Nat → Int32} (hB : NOW G D T N S X M) (ρ : Nat → Int32) :
    ∃ v : Option Nat, (∀ e, v = some e → e ≤ 60) ∧
      (∀ (x4 : Int32) (o t0 tw tl tv : Nat → Int32) (K : (Nat → Int32) → Option ((Nat → Int32) × (Nat → Int32) × (Nat → Int32) × (Nat → Int32) × (Nat → Int32) × (Nat → Int32) × (Nat → Int32) × (Nat → Int32))), ∃ w' o1 w1 l1 v1, fX0_weighShare_L11 n x4 o ρ (upd (upd (upd (upd t0 0 (X 37 0)) 1 (X 37 1)) 2 (X 37 2)) 3 (X 37 3)) (X 5) K n 0 (va_cpy (X 38) tw 0 0 7) = K w' ∧ fX2_runOut n 60 (upd (upd (upd (upd t0 0 (X 37 0)) 1 (X 37 1)) 2 (X 37 2)) 3 (X 37 3)) w' (va_cpy (X 39) tl 0 0 7) tv (X 5) (X 6) (X 8) (X 9) (X 10) (X 11) (X 12) (X 45) = some (encR 60 v, o1, w1, l1, v1, X 45)) ∧
      (∀ (rc : Int32 → Int32 → (Nat → Int32) → (Nat → Int32) → (Nat → Int32) → (Nat → Int32) → (Nat → Int32) → (Nat → Int32) → Option ((Nat → Int32) × (Nat → Int32) × (Nat → Int32) × (Nat → Int32))) (om tr cu : Nat → Int32) (K : (Nat → Int32) → Option ((Nat → Int32) × (Nat → Int32) × (Nat → Int32) × (Nat → Int32))), (∀ g, g < G → cu g = ρ g) → ∃ s' om' s2, fX10_tryCups_L42 n rc om (M 15) cu K n 0 (va_cpy (M 17) tr 0 0 17) = K s' ∧ fX10_endsOn n 0 om (M 15) s' = some (encE v, om', s2) ∧ ∀ k, k ≠ 22 → k ≠ 24 → om' k = om k) := by
  have hG := hB.G.1
  have x51 : X 5 1 = M 15 1 := hB.2.2.2.2.1.2.2.2.2.2.2.1
  obtain ⟨c0, hc1, hc2⟩ := hB.clock
  have l60 : (60 : Int32) = nI 60 := rfl
  obtain ⟨a, b, c, d, e, f, g', i⟩ := hB.nr
  have h0 : NR G (X 37) (fun g => if g < G then X 38 g + ρ g * X 5 1 else X 38 g) (X 39) (fun g => if g < G then M 17 g + ρ g * M 15 1 else M 17 g) := by
    refine ⟨?_, ?_, c, fun g hg => ?_, fun g hg => ?_, fun g hg hb => ?_, g', i⟩
    · show X 37 0 = if 14 < G then _ else M 17 14
      rw [if_neg (by omega)]; exact a
    · show X 37 2 = if 15 < G then _ else M 17 15
      rw [if_neg (by omega)]; exact b
    · show (if g < G then _ else X 38 g) = if g < G then _ else M 17 g
      rw [if_pos hg, if_pos hg, d g hg, x51]
    · show _ ↔ (if 7 + g < G then _ else M 17 (7 + g)) = 0
      rw [if_neg (by omega)]; exact e g hg
    · show (if 7 + g < G then _ else M 17 (7 + g)) = _
      rw [if_neg (by omega)]; exact f g hg hb
  obtain ⟨v, L, hv, cls, mdl⟩ := run_spec (n := n) hn hB.G hB.2.2.1 h0 (c := c0) (by
    show (if 14 < G then _ else M 17 14) = _
    rw [if_neg (by omega)]; exact hc2) (by omega)
  refine ⟨v, hv, fun x4 o t0 tw tl tv K => ?_, fun rc om tr cu K hcu => ?_⟩
  · obtain ⟨w', hw', e1⟩ := shW_c (n := n) (x4 := x4) (o := o) (f4 := ρ) (t0 := upd (upd (upd (upd t0 0 (X 37 0)) 1 (X 37 1)) 2 (X 37 2)) 3 (X 37 3)) hG hB.G.2.1 (va_cpy (X 38) tw 0 0 7) K G 0 n (va_cpy (X 38) tw 0 0 7) (by omega) (by omega) (fun g => by rw [if_neg (Nat.not_lt_zero g)])
    obtain ⟨o1, w1, l1, v1, e2, -⟩ := cls (upd (upd (upd (upd t0 0 (X 37 0)) 1 (X 37 1)) 2 (X 37 2)) 3 (X 37 3)) w' (va_cpy (X 39) tl 0 0 7) tv (h0.cg hG rfl rfl rfl (fun g hg => by
      rw [hw' g, if_pos hg, if_pos hg, cpy_lo (by omega)]) (fun g hg => cpy_lo (by omega)) (fun _ _ => rfl)) 60 (by omega)
    exact ⟨w', o1, w1, l1, v1, e1, e2⟩
  · obtain ⟨s', hs', e1⟩ := shW_m (n := n) (rc := rc) (om := om) (cu := cu) hG hB.G.2.2.1 (va_cpy (M 17) tr 0 0 17) K G 0 n (va_cpy (M 17) tr 0 0 17) (by omega) (by omega) (fun g => by rw [if_neg (Nat.not_lt_zero g)])
    obtain ⟨om', s2, e2, e3, -⟩ := mdl om s' (h0.cg hG rfl rfl rfl (fun _ _ => rfl) (fun _ _ => rfl) (fun k hk => by
      rw [hs' k]
      by_cases q : k < G
      · rw [if_pos q, if_pos q, cpy_lo (by omega), hcu k q]
      · rw [if_neg q, if_neg q, cpy_lo (by omega)]))
    exact ⟨s', om', s2, e1, e2, e3⟩
/-- with nothing better to be found the reference finds nothing -/
theorem muchS {n G D T N S : Nat} (hn : 100 ≤ n) {X M : Nat → Nat → Int32} (hB : NOW G D T N S X M) :
    ∀ (j g left d : Nat) (om tr cu be : Nat → Int32), g + j = G → j < d → left ≤ 4 → om 32 = 1000000 → ∃ om' tr' cu', fX10_tryCups n d (nI g) (nI left) om (M 15) (M 17) tr cu be = some (om', tr', cu', be) ∧ om' 32 = 1000000 ∧ (∀ i, i < g → cu' i = cu i) ∧ (∀ k, k ≠ 22 → k ≠ 24 → k ≠ 32 → om' k = om k) := by
  have hG := hB.G.1
  intro j
  induction j with
  | zero =>
    intro g left d om tr cu be hg hd hl h32
    obtain ⟨d, rfl⟩ : ∃ u, d = u + 1 := ⟨d - 1, by omega⟩
    have e : g = G := by omega
    subst e
    rw [fX10_tryCups, hB.G.2.2.1, if_pos rfl, h32, if_pos rfl]
    refine ⟨om, tr, cu, ?_, h32, fun _ _ => rfl, fun _ _ _ _ => rfl⟩
    by_cases q : (0 : Int32) < nI left
    · rw [if_pos q]
    · rw [if_neg q]
  | succ j ih =>
    intro g left d om tr cu be hg hd hl h32
    obtain ⟨d, rfl⟩ : ∃ u, d = u + 1 := ⟨d - 1, by omega⟩
    have loop : ∀ (i c f : Nat) (om tr cu : Nat → Int32), c + i = left + 1 → i < f → om 32 = 1000000 → ∃ om' tr' cu', fX10_tryCups_L134 n (fX10_tryCups n d) (nI g) (nI left) (M 15) (M 17) (fun o a b e => if nI g < 0 ∨ 7 ≤ (nI g).toNatClampNeg then none else some (o, a, upd b (nI g).toNatClampNeg 0, e)) f (nI c) om tr cu be = some (om', tr', cu', be) ∧ om' 32 = 1000000 ∧ (∀ i, i < g → cu' i = cu i) ∧ (∀ k, k ≠ 22 → k ≠ 24 → k ≠ 32 → om' k = om k) := by
      intro i
      induction i with
      | zero =>
        intro c f om tr cu hc hf h32
        obtain ⟨u, rfl⟩ : ∃ u, f = u + 1 := ⟨f - 1, by omega⟩
        refine ⟨om, tr, upd cu g 0, by rw [fX10_tryCups_L134, if_pos (nI_lt (by omega) (by omega)), if_neg (ckI (by omega) (by omega)), clI (by omega)], h32, fun i hi => upd_n _ _ (by omega), fun _ _ _ _ => rfl⟩
      | succ i ihi =>
        intro c f om tr cu hc hf h32
        obtain ⟨u, rfl⟩ : ∃ u, f = u + 1 := ⟨f - 1, by omega⟩
        obtain ⟨om1, tr1, cu1, a1, a2, a3, a4⟩ := ih (g + 1) (left - c) d om tr (upd cu g (nI c)) be (by omega) (by omega) (by omega) h32
        obtain ⟨om2, tr2, cu2, b1, b2, b3, b4⟩ := ihi (c + 1) u om1 tr1 cu1 (by omega) (by omega) a2
        rw [fX10_tryCups_L134, if_neg (nI_nlt (by omega) (by omega)), pk_sub (by omega), sI, sI]
        dsimp only [jn]
        have J : (if nI g < 0 ∨ 7 ≤ (nI g).toNatClampNeg then none else ob4 (fX10_tryCups n d (nI (g + 1)) (nI (left - c)) om (M 15) (M 17) tr (upd cu (nI g).toNatClampNeg (nI c)) be) (fun u_4 u_5 u_6 u_7 => fX10_tryCups_L134 n (fX10_tryCups n d) (nI g) (nI left) (M 15) (M 17) (fun o a b e => if nI g < 0 ∨ 7 ≤ (nI g).toNatClampNeg then none else some (o, a, upd b (nI g).toNatClampNeg 0, e)) u (nI (c + 1)) u_4 u_5 u_6 u_7)) = some (om2, tr2, cu2, be) := by
          rw [if_neg (ckI (k := g) (by omega) (by omega)), show upd cu (nI g).toNatClampNeg (nI c) = upd cu g (nI c) by rw [clI (by omega)], a1, ob4_ss, b1]
        have fin : ∀ i, i < g → cu2 i = cu i := fun i hi => by rw [b3 i hi, a3 i (by omega), upd_n _ _ (by omega)]
        by_cases hc0 : nI c = 0
        · rw [if_pos hc0]
          exact ⟨om2, tr2, cu2, J, b2, fin, fun k h1 h2 h3 => (b4 k h1 h2 h3).trans (a4 k h1 h2 h3)⟩
        · rw [if_neg hc0]
          by_cases hin : M 17 (7 + g) = 0
          · rw [isIn_y (by omega) hin, ob1_ss, if_neg i10]
            exact ⟨om2, tr2, cu2, J, b2, fin, fun k h1 h2 h3 => (b4 k h1 h2 h3).trans (a4 k h1 h2 h3)⟩
          · rw [isIn_n (by omega) hin, ob1_ss, if_pos i00, if_neg (ckI (by omega) (by omega)), clI (by omega)]
            exact ⟨om, tr, upd cu g 0, rfl, h32, fun i hi => upd_n _ _ (by omega), fun _ _ _ _ => rfl⟩
    rw [fX10_tryCups, hB.G.2.2.1, if_neg (fun q => by have := nI_inj (by omega) (by omega) q; omega)]
    exact loop (left + 1) 0 n om tr cu (by omega) (by omega) h32
