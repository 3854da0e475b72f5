/-! tales: what comes of telling them one behind another -/
abbrev Q4 : Type := (Nat → Int32) × (Nat → Int32) × (Nat → Int32) × (Nat → Int32)
theorem talehours_lock {n G D T N S t h k : Nat} (hn : 100 ≤ n) {X : Nat → Nat → Int32} {r : Nat → Int32} (hX : HX G D T N S X r) {po : Nat → Int32} (hpo : po 0 = 0) (ht : t < 4) (hh : h ≤ 3) (hrt : r (86 + 2 * t) = nI h) (x1 : Int32) (hk : k < 4) (ta : Nat → Int32) (hta : ta k = nI t) (K : Int32 → (Nat → Int32) → (Nat → Int32) → Option (Int32 × (Nat → Int32) × (Nat → Int32))) :
    ∀ (j i f1 f2 c : Nat) (x x2 : Int32) (o w la wl om st : Nat → Int32), i + j = h → j < f1 → j < f2 → c + j ≤ 100000 → NR G o w la st → st 14 = nI c →
      ∃ R o' w' la' wl' om' st', fX2_passAll_L6 n (nI h) (X 5) (X 6) (X 8) (X 9) (X 10) (X 11) (X 12) (fun x o w l v p => some (x, o, w, l, v, p)) f1 x (nI i) o w la wl po = some (R, o', w', la', wl', po) ∧ fX10_endsByTales_L41 n x1 (nI k) r ta K f2 x2 (nI i) om st = K (x2 + nI j) om' st' ∧ NR G o' w' la' st' ∧ st' 14 = nI (c + j) ∧ (∀ k, k ≠ 22 → om' k = om k) ∧ o' 3 = o 3 := by
  have l86 : (86 : Int32) = nI 86 := rfl
  have ix : ((86 : Int32) + ((2 : Int32) * nI t)) = nI (86 + 2 * t) := by rw [l86, lz2, mulI, addI]
  intro j
  induction j with
  | zero =>
    intro i f1 f2 c x x2 o w la wl om st hi hf1 hf2 hcb hN hc
    obtain ⟨a, rfl⟩ : ∃ a, f1 = a + 1 := ⟨f1 - 1, by omega⟩
    obtain ⟨b, rfl⟩ : ∃ b, f2 = b + 1 := ⟨f2 - 1, by omega⟩
    exact ⟨x, o, w, la, wl, om, st, by rw [fX2_passAll_L6, if_pos (nI_le (by omega) (by omega))], by rw [fX10_endsByTales_L41, if_neg (ckI (by omega) (by omega)), clI (k := k) (by omega), hta, ix, if_neg (ckI (by omega) (by omega)), clI (by omega), hrt, if_pos (nI_le (by omega) (by omega)), show nI 0 = 0 from rfl, Int32.add_zero], hN, hc, fun _ _ => rfl, rfl⟩
  | succ j ih =>
    intro i f1 f2 c x x2 o w la wl om st hi hf1 hf2 hcb hN hc
    obtain ⟨a, rfl⟩ : ∃ a, f1 = a + 1 := ⟨f1 - 1, by omega⟩
    obtain ⟨b, rfl⟩ : ∃ b, f2 = b + 1 := ⟨f2 - 1, by omega⟩
    obtain ⟨H, o1, w1, la1, wl1, om1, st1, e1, e2, g1, g2, g3, g4, g5, g6, g7, g8⟩ := pass_lock (n := n) (by omega) hX.1 (c := c) (by omega) wl om po hN hc hpo
    rw [fX2_passAll_L6, if_neg (nI_ge (by omega) (by omega)), e1, ob6_ss, fX10_endsByTales_L41, if_neg (ckI (by omega) (by omega)), clI (k := k) (by omega), hta, ix, if_neg (ckI (by omega) (by omega)), clI (by omega), hrt, if_neg (nI_ge (by omega) (by omega)), e2, ob3_ss, sI]
    obtain ⟨R, o', w', la', wl', om', st', t1, t2, t3, t4, t5, t6⟩ := ih (i + 1) a b (c + 1) (x ||| H) (x2 + 1) o1 w1 la1 wl1 om1 st1 (by omega) (by omega) (by omega) (by omega) g1 g2
    refine ⟨R, o', w', la', wl', om', st', t1, ?_, t3, by rw [t4]; exact congrArg nI (by omega), fun k hk => (t5 k hk).trans (g4 k hk), t6.trans g7.2.1⟩
    rw [t2, Int32.add_assoc, show (1 : Int32) = nI 1 from rfl, addI, show 1 + j = j + 1 by omega]
/-- a tale is told, by both -/
theorem narr_pair {n G D T N S c t h k : Nat} (hn : 100 ≤ n) {X : Nat → Nat → Int32} {r : Nat → Int32} (hX : HX G D T N S X r) {po : Nat → Int32} (hpo : po 0 = 0) {o w la st : Nat → Int32} (hN : NR G o w la st) (hc : st 14 = nI c) (hcb : c ≤ 1000) (ht : t < T) (hh : h ≤ 3) (hrt : r (86 + 2 * t) = nI h) (wl om : Nat → Int32) (x1 x2 : Int32) (hk : k < 4) (ta : Nat → Int32) (hta : ta k = nI t) (K : Int32 → (Nat → Int32) → (Nat → Int32) → Option (Int32 × (Nat → Int32) × (Nat → Int32))) :
    ∃ R o' w' la' wl' om' st' u, fX2_narrate n (nI t) o w la wl (X 5) (X 6) (X 8) (X 9) (X 10) (X 11) (X 12) (X 13) (X 14) po = some (R, o', w', la', wl', po) ∧ fX10_tires n (nI t) om r st = some u ∧ fX10_endsByTales_L41 n x1 (nI k) r ta K n x2 0 om u = K (x2 + nI h) om' st' ∧ NR G o' w' la' st' ∧ st' 14 = nI (c + h) ∧ (∀ k, k ≠ 22 → om' k = om k) ∧ o' 3 = o 3 ||| ((1 : Int32) <<< (nI t &&& 31)) := by
  obtain ⟨hH, h1G, hT4, hN5, hS6, x50, x51, x58, x59, x513, r6, x150, r7, x153, r8, bc, bw, bg, bp, ew, bwt, bk, bs, inv, bdm, unq, etl, bth, btt, end_, bnh, esi, bsi⟩ := id hX
  have hG := hH.1
  have eT := etl t ht
  obtain ⟨w1, a1, a2⟩ := tireS (n := n) (o := upd o 3 (o 3 ||| ((1 : Int32) <<< (nI t &&& 31)))) (by omega) hG hH.2.1 (X 14 t) w
  obtain ⟨u, b1, b2⟩ := tiresS (n := n) (t := t) (om := om) (by omega) hG (by omega) hH.2.2.1 st
  have hN0 : NR G (upd o 3 (o 3 ||| ((1 : Int32) <<< (nI t &&& 31)))) w la st := hN.cg hG (upd_n _ _ (by decide)) (upd_n _ _ (by decide)) (upd_n _ _ (by decide)) (fun _ _ => rfl) (fun _ _ => rfl) (fun _ _ => rfl)
  have hN1 := hN0.tire hG (w' := w1) (st' := u) (X 14 t) a1 (fun i => by rw [eT.2]; exact b1 i)
  have s14 : u 14 = nI c := by rw [b1 14, if_neg (fun q => absurd q.1 (by omega))]; exact hc
  obtain ⟨R, o', w', la', wl', om', st', t1, t2, t3, t4, t5, t6⟩ := talehours_lock hn hX hpo (show t < 4 by omega) hh hrt x1 hk ta hta K h 0 n n c 0 x2 (upd o 3 (o 3 ||| ((1 : Int32) <<< (nI t &&& 31)))) w1 la wl om u (by omega) (by omega) (by omega) (by omega) hN1 s14
  refine ⟨R, o', w', la', wl', om', st', u, ?_, b2, t2, t3, t4, t5, t6.trans (upd_s _ _ _)⟩
  rw [fX2_narrate, if_neg (ckI (by omega) (by omega)), clI (by omega), a2, ob1_ss, if_neg (ckK (by omega) (by omega)), eT.1, hrt, fX2_passAll]
  refine (congrArg (fun z => ob6 z _) t1).trans ?_
  rfl
/-- from q by tale t to q' -/
def TS (n G : Nat) (X : Nat → Nat → Int32) (r po : Nat → Int32) (q : Q4) (t : Nat) (q' : Q4) : Prop :=
  NR G q'.1 q'.2.1 q'.2.2.1 q'.2.2.2 ∧ q'.2.2.2 14 = q.2.2.2 14 + r (86 + 2 * t) ∧
  (∀ o w la wl, NR G o w la q.2.2.2 → ∃ R o' w' la' wl', fX2_narrate n (nI t) o w la wl (X 5) (X 6) (X 8) (X 9) (X 10) (X 11) (X 12) (X 13) (X 14) po = some (R, o', w', la', wl', po) ∧ NR G o' w' la' q'.2.2.2 ∧ o' 3 = o 3 ||| ((1 : Int32) <<< (nI t &&& 31))) ∧
  ∀ (om st ta : Nat → Int32) (x1 x2 : Int32) (k : Nat) (K : Int32 → (Nat → Int32) → (Nat → Int32) → Option (Int32 × (Nat → Int32) × (Nat → Int32))), NR G q.1 q.2.1 q.2.2.1 st → k < 4 → ta k = nI t → ∃ om' st' u, fX10_tires n (nI t) om r st = some u ∧ fX10_endsByTales_L41 n x1 (nI k) r ta K n x2 0 om u = K (x2 + r (86 + 2 * t)) om' st' ∧ (∀ k, k ≠ 22 → om' k = om k) ∧ NR G q'.1 q'.2.1 q'.2.2.1 st'
theorem tell_spec {n G D T N S c t : Nat} (hn : 100 ≤ n) {X : Nat → Nat → Int32} {r : Nat → Int32} (hX : HX G D T N S X r) {po : Nat → Int32} (hpo : po 0 = 0) {q : Q4} (hN : NR G q.1 q.2.1 q.2.2.1 q.2.2.2) (hc : q.2.2.2 14 = nI c) (hcb : c ≤ 1000) (ht : t < T) : ∃ q', TS n G X r po q t q' := by
  obtain ⟨h, h1, h3, hrt⟩ := hX.2.2.2.2.2.2.2.2.2.2.2.2.2.2.2.2.2.2.2.2.2.2.2.2.2.2.2.1 t ht
  obtain ⟨R, o1, w1, la1, wl1, om1, st1, u1, a1, a2, a3, a4, a5, a6, a7⟩ := narr_pair hn hX hpo hN hc hcb ht h3 hrt (fun _ => 0) (fun _ => 0) 0 0 (show 0 < 4 by omega) (fun _ => nI t) rfl (fun a b c => some (a, b, c))
  refine ⟨(o1, w1, la1, st1), a4, by rw [hc, hrt, addI]; exact a5, fun o w la wl hN' => ?_, fun om st ta x1 x2 k K hN' hk hta => ?_⟩
  · obtain ⟨R', o', w', la', wl', om', st', u', b1, b2, b3, b4, b5, b6, b7⟩ := narr_pair hn hX hpo hN' hc hcb ht h3 hrt wl (fun _ => 0) 0 0 (show 0 < 4 by omega) (fun _ => nI t) rfl (fun a b c => some (a, b, c))
    have eu : u1 = u' := Option.some.inj (a2.symm.trans b2)
    subst eu
    obtain ⟨-, e2⟩ := Prod.mk.inj (Option.some.inj (a3.symm.trans b3))
    obtain ⟨-, e3⟩ := Prod.mk.inj e2
    subst e3
    exact ⟨R', o', w', la', wl', b1, b4, b7⟩
  · obtain ⟨R', o', w', la', wl', om', st', u', b1, b2, b3, b4, b5, b6, b7⟩ := narr_pair hn hX hpo hN' (c := c) (by rw [← hN'.1, hN.1]; exact hc) hcb ht h3 hrt (fun _ => 0) om x1 x2 hk ta hta K
    obtain ⟨-, e2⟩ := Prod.mk.inj (Option.some.inj (a1.symm.trans b1))
    obtain ⟨e3, e4⟩ := Prod.mk.inj e2
    obtain ⟨e5, e6⟩ := Prod.mk.inj e4
    obtain ⟨e7, -⟩ := Prod.mk.inj e6
    subst e3; subst e5; subst e7
    exact ⟨om', st', u', b2, by rw [b3, hrt], b6, b4⟩
/-- how long it lasts from q -/
def RS (n G : Nat) (X : Nat → Nat → Int32) (r po : Nat → Int32) (q : Q4) (v : Option Nat) : Prop :=
  (∀ e, v = some e → e ≤ 60) ∧ (∀ o w la wl, NR G o w la q.2.2.2 → ∀ h, h ≤ 60 → ∃ o' w' la' wl', fX2_runOut n (nI h) o w la wl (X 5) (X 6) (X 8) (X 9) (X 10) (X 11) (X 12) po = some (encR h v, o', w', la', wl', po)) ∧
  (∀ om st, NR G q.1 q.2.1 q.2.2.1 st → ∃ om' st', fX10_endsOn n 0 om r st = some (encE v, om', st') ∧ (∀ k, k ≠ 22 → k ≠ 24 → om' k = om k))
theorem rs_spec {n G D T N S c : Nat} (hn : 100 ≤ n) {X : Nat → Nat → Int32} {r : Nat → Int32} (hX : HX G D T N S X r) {po : Nat → Int32} (hpo : po 0 = 0) {q : Q4} (hN : NR G q.1 q.2.1 q.2.2.1 q.2.2.2) (hc : q.2.2.2 14 = nI c) (hcb : c ≤ 1000) : ∃ v, RS n G X r po q v := by
  obtain ⟨v, L, h1, h2, h3⟩ := run_spec hn hX.1 hpo hN hc (by omega)
  refine ⟨v, h1, fun o w la wl hN' h hh => ?_, fun om st hN' => ?_⟩
  · obtain ⟨o', w', la', wl', e1, -⟩ := h2 o w la wl hN' h hh
    exact ⟨o', w', la', wl', e1⟩
  · obtain ⟨om', st', e1, e2, -⟩ := h3 om st hN'
    exact ⟨om', st', e1, e2⟩
/-! rows of tales, the newest first -/
def hrs (r : Nat → Int32) : List Nat → Nat
  | [] => 0
  | t :: p => hrs r p + (r (86 + 2 * t)).toNatClampNeg
def usl (j0 : Nat) : List Nat → Nat
  | [] => j0
  | t :: p => usl j0 p + 2 ^ t
def okl (T j0 : Nat) : List Nat → Prop
  | [] => True
  | t :: p => okl T j0 p ∧ t < T ∧ usl j0 p / 2 ^ t % 2 = 0
def rwl : List Nat → Nat → Nat
  | [], _ => 0
  | t :: p, i => if i = p.length then t else rwl p i
def cdl : List Nat → Nat
  | [] => 0
  | t :: p => 4 * cdl p + t
theorem bit_add : ∀ T, T ≤ 4 → ∀ u, u < 2 ^ T → ∀ t, t < T → u / 2 ^ t % 2 = 0 → u + 2 ^ t < 2 ^ T ∧ pop (u + 2 ^ t) = pop u + 1 := by decide +kernel
theorem pop_le : ∀ T, T ≤ 4 → ∀ u, u < 2 ^ T → pop u ≤ T := by decide +kernel
theorem bit_or : ∀ u, u < 16 → ∀ t, t < 4 → u / 2 ^ t % 2 = 0 → (nI u ||| ((1 : Int32) <<< (nI t &&& 31))) = nI (u + 2 ^ t) := by decide +kernel
theorem bit_bt : ∀ u, u < 16 → ∀ t, t < 4 → (bt (nI u) t = true ↔ u / 2 ^ t % 2 = 1) := by decide +kernel
theorem pow4 : ∀ T, T ≤ 4 → 2 ^ T ≤ 16 := by decide +kernel
theorem okl_us {T j0 : Nat} (hT : T ≤ 4) (hj : j0 < 2 ^ T) : ∀ {p : List Nat}, okl T j0 p → usl j0 p < 2 ^ T ∧ pop (usl j0 p) = pop j0 + p.length
  | [], _ => ⟨hj, rfl⟩
  | t :: p, h => by
    have i := okl_us hT hj h.1
    have b := bit_add T hT _ i.1 t h.2.1 h.2.2
    exact ⟨b.1, by rw [usl, b.2, i.2]; simp; omega⟩
theorem okl_len {T j0 : Nat} (hT : T ≤ 4) (hj : j0 < 2 ^ T) {p : List Nat} (h : okl T j0 p) : p.length + pop j0 ≤ T := by
  have i := okl_us hT hj h
  have := pop_le T hT _ i.1
  omega
theorem okl_app {T j0 : Nat} : ∀ {e p : List Nat}, okl T j0 (e ++ p) → okl T j0 p
  | [], _, h => h
  | _ :: _, _, h => okl_app h.1
theorem cdl_lt {T j0 : Nat} (hT : T ≤ 4) : ∀ {p : List Nat}, okl T j0 p → cdl p < 4 ^ p.length
  | [], _ => by decide
  | t :: p, h => by
    have i := cdl_lt hT h.1
    have := h.2.1
    rw [cdl, List.length_cons, Nat.pow_succ]
    omega
theorem cdl_inj {T j0 : Nat} (hT : T ≤ 4) : ∀ {p q : List Nat}, okl T j0 p → okl T j0 q → p.length = q.length → cdl p = cdl q → p = q
  | [], [], _, _, _, _ => rfl
  | [], _ :: _, _, _, h, _ => by simp at h
  | _ :: _, [], _, _, h, _ => by simp at h
  | t :: p, s :: q, h1, h2, h, e => by
    rw [cdl, cdl] at e
    have a := h1.2.1
    have b := h2.2.1
    have e1 : t = s := by omega
    have e2 : cdl p = cdl q := by omega
    rw [e1, cdl_inj hT h1.1 h2.1 (by simpa using h) e2]
theorem cdl_app {T j0 : Nat} (hT : T ≤ 4) : ∀ {e p : List Nat}, okl T j0 (e ++ p) → cdl (e ++ p) / 4 ^ e.length = cdl p
  | [], p, _ => by simp
  | t :: e, p, h => by
    have i := cdl_app hT h.1
    have a := h.2.1
    rw [List.cons_append, cdl, List.length_cons, Nat.pow_succ, Nat.mul_comm (4 ^ e.length) 4, ← Nat.div_div_eq_div_mul, show (4 * cdl (e ++ p) + t) / 4 = cdl (e ++ p) by omega]
    exact i
theorem hrs_le {T j0 : Nat} {r : Nat → Int32} (hr : ∀ t, t < T → ∃ k, 1 ≤ k ∧ k ≤ 3 ∧ r (86 + 2 * t) = nI k) : ∀ {p : List Nat}, okl T j0 p → hrs r p ≤ 3 * p.length
  | [], _ => Nat.le_refl _
  | t :: p, h => by
    have i := hrs_le hr h.1
    obtain ⟨k, k1, k2, k3⟩ := hr t h.2.1
    rw [hrs, k3, clI (by omega), List.length_cons]
    omega
noncomputable def QT (n G : Nat) (X : Nat → Nat → Int32) (r po : Nat → Int32) (q0 : Q4) : List Nat → Q4
  | [] => q0
  | t :: p => Classical.epsilon (fun q' => TS n G X r po (QT n G X r po q0 p) t q')
theorem qt_spec {n G D T N S c j0 : Nat} (hn : 100 ≤ n) {X : Nat → Nat → Int32} {r : Nat → Int32} (hX : HX G D T N S X r) (hj : j0 < 2 ^ T) {po : Nat → Int32} (hpo : po 0 = 0) {q0 : Q4} (hN : NR G q0.1 q0.2.1 q0.2.2.1 q0.2.2.2) (hc : q0.2.2.2 14 = nI c) (hcb : c ≤ 500) :
    ∀ {p : List Nat}, okl T j0 p → (NR G (QT n G X r po q0 p).1 (QT n G X r po q0 p).2.1 (QT n G X r po q0 p).2.2.1 (QT n G X r po q0 p).2.2.2 ∧ (QT n G X r po q0 p).2.2.2 14 = nI (c + hrs r p)) ∧ ∀ t, okl T j0 (t :: p) → TS n G X r po (QT n G X r po q0 p) t (QT n G X r po q0 (t :: p)) := by
  have bth := hX.2.2.2.2.2.2.2.2.2.2.2.2.2.2.2.2.2.2.2.2.2.2.2.2.2.2.2.1
  have hT4 : T ≤ 4 := hX.2.2.1
  intro p
  induction p with
  | nil =>
    intro _
    refine ⟨⟨hN, hc⟩, fun t ht => ?_⟩
    obtain ⟨q', hq'⟩ := tell_spec hn hX hpo hN hc (by omega) ht.2.1
    exact Classical.epsilon_spec (p := fun q' => TS n G X r po q0 t q') ⟨q', hq'⟩
  | cons s p ih =>
    intro h
    have i := (ih h.1).2 s h
    have i0 := (ih h.1).1
    obtain ⟨k, k1, k2, k3⟩ := bth s h.2.1
    have hl := okl_len hT4 hj h
    have hh := hrs_le bth h
    have e14 : (QT n G X r po q0 (s :: p)).2.2.2 14 = nI (c + hrs r (s :: p)) := by
      rw [i.2.1, i0.2, k3, addI, hrs, k3, clI (by omega)]
      exact congrArg nI (by omega)
    refine ⟨⟨i.1, e14⟩, fun t ht => ?_⟩
    obtain ⟨q', hq'⟩ := tell_spec (t := t) hn hX hpo i.1 e14 (by simp at hh hl; omega) ht.2.1
    exact Classical.epsilon_spec (p := fun q' => TS n G X r po (QT n G X r po q0 (s :: p)) t q') ⟨q', hq'⟩
noncomputable def VT (n G : Nat) (X : Nat → Nat → Int32) (r po : Nat → Int32) (q0 : Q4) (p : List Nat) : Option Nat := Classical.epsilon (fun v => RS n G X r po (QT n G X r po q0 p) v)
theorem vt_spec {n G D T N S c j0 : Nat} (hn : 100 ≤ n) {X : Nat → Nat → Int32} {r : Nat → Int32} (hX : HX G D T N S X r) (hj : j0 < 2 ^ T) {po : Nat → Int32} (hpo : po 0 = 0) {q0 : Q4} (hN : NR G q0.1 q0.2.1 q0.2.2.1 q0.2.2.2) (hc : q0.2.2.2 14 = nI c) (hcb : c ≤ 500) {p : List Nat} (hp : okl T j0 p) : RS n G X r po (QT n G X r po q0 p) (VT n G X r po q0 p) := by
  have bth := hX.2.2.2.2.2.2.2.2.2.2.2.2.2.2.2.2.2.2.2.2.2.2.2.2.2.2.2.1
  have i := (qt_spec hn hX hj hpo hN hc hcb hp).1
  have hl := okl_len hX.2.2.1 hj hp
  have hT4 : T ≤ 4 := hX.2.2.1
  have hh := hrs_le bth hp
  obtain ⟨v, hv⟩ := rs_spec hn hX hpo i.1 i.2 (by omega)
  exact Classical.epsilon_spec (p := fun v => RS n G X r po (QT n G X r po q0 p) v) ⟨v, hv⟩
def totv (h : Nat) : Option Nat → Nat
  | some e => if h + e ≤ 60 then h + e else 61
  | none => 61
theorem totv_le (h : Nat) (v : Option Nat) : totv h v ≤ 61 := by
  cases v with
  | none => exact Nat.le_refl _
  | some e =>
    rw [totv]
    by_cases q : h + e ≤ 60
    · rw [if_pos q]; omega
    · rw [if_neg q]; omega
theorem totC {h : Nat} (hh : h ≤ 60) {v : Option Nat} (hv : ∀ e, v = some e → e ≤ 60) : (if nI h + encR (60 - h) v < 61 then nI h + encR (60 - h) v else 61) = nI (totv h v) := by
  have l61 : (61 : Int32) = nI 61 := rfl
  have no : ¬ nI h + 61 < 61 := by rw [l61, addI]; exact nI_nlt (by omega) (by omega)
  cases v with
  | none => rw [encR, if_neg no]; rfl
  | some e =>
    have := hv e rfl
    rw [encR, totv]
    by_cases q : e ≤ 60 - h
    · rw [if_pos q, if_pos (show h + e ≤ 60 by omega), addI, l61, if_pos (nI_lt (a := h + e) (by omega) (by omega))]
    · rw [if_neg q, if_neg (show ¬ h + e ≤ 60 by omega), if_neg no]; rfl
/-- the reference's number for it -/
def encT (x : Nat) : Int32 := if x ≤ 60 then nI x else -2
theorem totM {h : Nat} (hh : h ≤ 60) {v : Option Nat} (hv : ∀ e, v = some e → e ≤ 60) {A B : Type} (a : A) (b : B) : (if encE v < 0 then some ((-2 : Int32), a, b) else if nI h + encE v ≤ 60 then some (nI h + encE v, a, b) else some ((-2 : Int32), a, b)) = some (encT (totv h v), a, b) := by
  have l60 : (60 : Int32) = nI 60 := rfl
  cases v with
  | none => rw [encE, if_pos (by decide)]; rfl
  | some e =>
    have := hv e rfl
    rw [encE, if_neg (nI_pos (by omega)), addI, totv, l60]
    by_cases q : h + e ≤ 60
    · rw [if_pos (nI_le q (by omega)), if_pos q, encT, if_pos q]
    · rw [if_neg (nI_ge (by omega) (by omega)), if_neg q]; rfl
/-- the reference tells a row -/
theorem byTales {n G D T N S c j0 m : Nat} (hn : 100 ≤ n) {X : Nat → Nat → Int32} {r : Nat → Int32} (hX : HX G D T N S X r) (hj : j0 < 2 ^ T) {po : Nat → Int32} (hpo : po 0 = 0) {q0 : Q4} (hN : NR G q0.1 q0.2.1 q0.2.2.1 q0.2.2.2) (hc : q0.2.2.2 14 = nI c) (hcb : c ≤ 500) (hm : m ≤ 4) (ta : Nat → Int32) (K : Int32 → (Nat → Int32) → (Nat → Int32) → Option (Int32 × (Nat → Int32) × (Nat → Int32))) :
    ∀ {p : List Nat}, okl T j0 p → p.length ≤ m → (∀ i, i < p.length → ta i = nI (rwl p i)) → ∀ (f : Nat) (om st : Nat → Int32), p.length ≤ f → NR G q0.1 q0.2.1 q0.2.2.1 st → ∃ om' st', fX10_endsByTales_L19 n (nI m) r ta K f 0 0 om st = fX10_endsByTales_L19 n (nI m) r ta K (f - p.length) (nI (hrs r p)) (nI p.length) om' st' ∧ (∀ k, k ≠ 22 → om' k = om k) ∧ NR G (QT n G X r po q0 p).1 (QT n G X r po q0 p).2.1 (QT n G X r po q0 p).2.2.1 st' := by
  have bth := hX.2.2.2.2.2.2.2.2.2.2.2.2.2.2.2.2.2.2.2.2.2.2.2.2.2.2.2.1
  intro p
  induction p with
  | nil => intro _ _ _ f om st hf hN'; exact ⟨om, st, rfl, fun _ _ => rfl, hN'⟩
  | cons t p ih =>
    intro h hl hta f om st hf hN'
    simp only [List.length_cons] at hl hf
    obtain ⟨om1, st1, e1, e2, e3⟩ := ih h.1 (by omega) (fun i hi => by
      have := hta i (by simp; omega)
      rw [rwl, if_neg (by omega)] at this
      exact this) f om st (by omega) hN'
    have htp : ta p.length = nI t := by
      have := hta p.length (by simp)
      rw [rwl, if_pos rfl] at this
      exact this
    obtain ⟨om2, st2, u, f1, f2, f3, f4⟩ := ((qt_spec hn hX hj hpo hN hc hcb h.1).2 t h).2.2.2 om1 st1 ta (nI m) (nI (hrs r p)) p.length (fun x2 o1 s1 => fX10_endsByTales_L19 n (nI m) r ta K (f - p.length - 1) x2 (nI (p.length + 1)) o1 s1) e3 (by omega) htp
    obtain ⟨k, k1, k2, k3⟩ := bth t h.2.1
    refine ⟨om2, st2, ?_, fun k hk => (f3 k hk).trans (e2 k hk), f4⟩
    rw [e1, List.length_cons, show f - (p.length + 1) = f - p.length - 1 by omega]
    obtain ⟨v, hv⟩ : ∃ v, f - p.length = v + 1 := ⟨f - p.length - 1, by omega⟩
    rw [hv] at f2 ⊢
    rw [fX10_endsByTales_L19, if_neg (nI_ge (by omega) (by omega)), if_neg (ckI (by omega) (by omega)), clI (by omega), htp, f1, ob1_ss, sI]
    refine (show _ = _ from f2).trans ?_
    rw [hrs, k3, addI, clI (by omega)]
theorem byTalesS {n G D T N S c j0 : Nat} (hn : 100 ≤ n) {X : Nat → Nat → Int32} {r : Nat → Int32} (hX : HX G D T N S X r) (hj : j0 < 2 ^ T) {po : Nat → Int32} (hpo : po 0 = 0) {q0 : Q4} (hN : NR G q0.1 q0.2.1 q0.2.2.1 q0.2.2.2) (hc : q0.2.2.2 14 = nI c) (hcb : c ≤ 500) {p : List Nat} (hp : okl T j0 p) {ta : Nat → Int32} (hta : ∀ i, i < p.length → ta i = nI (rwl p i)) (om tr : Nat → Int32) :
    ∃ om' tr', fX10_endsByTales n (nI p.length) om r q0.2.2.2 tr ta = some (encT (totv (hrs r p) (VT n G X r po q0 p)), om', tr') ∧ ∀ k, k ≠ 22 → k ≠ 24 → om' k = om k := by
  have bth := hX.2.2.2.2.2.2.2.2.2.2.2.2.2.2.2.2.2.2.2.2.2.2.2.2.2.2.2.1
  have hT4 : T ≤ 4 := hX.2.2.1
  have hl := okl_len hT4 hj hp
  have hh := hrs_le bth hp
  have rs := vt_spec hn hX hj hpo hN hc hcb hp
  obtain ⟨om1, st1, e1, e2, e3⟩ := byTales hn hX hj hpo hN hc hcb (show p.length ≤ 4 by omega) ta (fun x o1 s1 => ob3 (fX10_endsOn n 0 o1 r s1) (fun u a b => if u < 0 then some ((-2 : Int32), a, b) else if x + u ≤ 60 then some (x + u, a, b) else some ((-2 : Int32), a, b))) hp (Nat.le_refl _) hta n om (va_cpy q0.2.2.2 tr 0 0 17) (by omega) (hN.cg hX.1.1 rfl rfl rfl (fun _ _ => rfl) (fun _ _ => rfl) (fun i hi => cpy_lo (by omega)))
  obtain ⟨om2, st2, f1, f2⟩ := rs.2.2 om1 st1 e3
  refine ⟨om2, st2, ?_, fun k h1 h2 => (f2 k h1 h2).trans (e2 k h1)⟩
  rw [fX10_endsByTales, copy17 hn, ob1_ss]
  refine (show _ = _ from e1).trans ?_
  obtain ⟨v, hv⟩ : ∃ v, n - p.length = v + 1 := ⟨n - p.length - 1, by omega⟩
  rw [hv, fX10_endsByTales_L19, if_pos (nI_le (by omega) (by omega)), f1, ob3_ss]
  exact totM (by omega) rs.1 om2 st2
