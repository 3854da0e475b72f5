/-! the best row of tales: by the class (deep first), by the reference (by length) -/
def kyl (tot : List Nat → Nat) (p : List Nat) : Nat := tot p * 10000 + p.length * 1000 + cdl p
set_option maxRecDepth 40000 in
theorem kyl_a {tp tb lp lb cp cb kq : Nat} (h1 : tp < tb) (h2 : lp ≤ 4) (h3 : cp < 256) (h : tb * 10000 + lb * 1000 + cb ≤ kq) : tp * 10000 + lp * 1000 + cp ≤ kq := by omega
set_option maxRecDepth 40000 in
theorem kyl_b {t lp lb cp cb kq : Nat} (h1 : lp < lb) (h3 : cp < 256) (h : t * 10000 + lb * 1000 + cb ≤ kq) : t * 10000 + lp * 1000 + cp ≤ kq := by omega
def BST (tot : List Nat → Nat) (S : List Nat → Prop) : Option (List Nat) → Prop
  | none => ∀ q, S q → tot q = 61
  | some b => S b ∧ tot b ≤ 60 ∧ ∀ q, S q → kyl tot b ≤ kyl tot q
theorem BST.congr {tot : List Nat → Nat} {S S' : List Nat → Prop} {b : Option (List Nat)} (h : BST tot S b) (e : ∀ v, S v ↔ S' v) : BST tot S' b := by
  cases b with
  | none => exact fun q hq => h q ((e q).mpr hq)
  | some b => exact ⟨(e b).mp h.1, h.2.1, fun q hq => h.2.2 q ((e q).mpr hq)⟩
theorem BST.uniq {T j0 : Nat} (hT : T ≤ 4) (hj : j0 < 2 ^ T) {tot : List Nat → Nat} {S : List Nat → Prop} {a b : Option (List Nat)} (ha : BST tot S a) (hb : BST tot S b) (hS : ∀ v, S v → okl T j0 v) : a = b := by
  cases a with
  | none =>
    cases b with
    | none => rfl
    | some b => have := ha b hb.1; have := hb.2.1; omega
  | some a =>
    cases b with
    | none => have := hb a ha.1; have := ha.2.1; omega
    | some b =>
      have k1 := ha.2.2 b hb.1
      have k2 := hb.2.2 a ha.1
      have oa := hS a ha.1
      have ob := hS b hb.1
      have la := okl_len hT hj oa
      have lb := okl_len hT hj ob
      have ca := cdl_lt hT oa
      have cb := cdl_lt hT ob
      have p4 : ∀ k, k ≤ 4 → 4 ^ k ≤ 256 := by decide +kernel
      have pa := p4 a.length (by omega)
      have pb := p4 b.length (by omega)
      unfold kyl at k1 k2
      rw [cdl_inj hT oa ob (by omega) (by omega)]
def CB (tot : List Nat → Nat) : Option (List Nat) → (Nat → Int32) → (Nat → Int32) → Prop
  | none, o, _ => o 1 = 61 ∧ o 2 = 0
  | some p, o, br => o 1 = nI (tot p) ∧ o 2 = nI p.length ∧ ∀ i, i < p.length → br i = nI (rwl p i)
def MB (tot : List Nat → Nat) : Option (List Nat) → (Nat → Int32) → (Nat → Int32) → Prop
  | none, o, _ => o 29 = 1000000
  | some p, o, be => o 29 = nI (tot p) ∧ o 28 = nI p.length ∧ ∀ i, i < p.length → be i = nI (rwl p i)
/-- one row is weighed by the class -/
theorem weighS2 {n G D T N S c j0 : Nat} (hn : 100 ≤ n) {X : Nat → Nat → Int32} {r : Nat → Int32} (hX : HX G D T N S X r) (hj : j0 < 2 ^ T) {po : Nat → Int32} (hpo : po 0 = 0) {q0 : Q4} (hN : NR G q0.1 q0.2.1 q0.2.2.1 q0.2.2.2) (hc : q0.2.2.2 14 = nI c) (hcb : c ≤ 500) {tot : List Nat → Nat} (htot : ∀ p, tot p = totv (hrs r p) (VT n G X r po q0 p))
    {p : List Nat} (hp : okl T j0 p) {V : List Nat → Prop} {b : Option (List Nat)} {o br row : Nat → Int32} (t0 tw tl tv : Nat → Int32) {O F6 F7 F8 : Nat → Nat → Int32} (hO : NR G (O p.length) (F6 p.length) (F7 p.length) (QT n G X r po q0 p).2.2.2) (hrow : ∀ i, i < p.length → row i = nI (rwl p i)) (hB : BST tot V b) (hC : CB tot b o br) (hV : ∀ v, V v → okl T j0 v ∧ (p.length ≤ v.length → cdl v / 4 ^ (v.length - p.length) < cdl p)) :
    ∃ b' o' br' q1 q2 q3 q4, fX6_weighRow n (nI p.length) (nI (hrs r p)) o br row O F6 F7 F8 t0 tw tl tv (X 5) (X 6) (X 8) (X 9) (X 10) (X 11) (X 12) po = some (o', br', q1, q2, q3, q4, po) ∧ BST tot (fun v => V v ∨ v = p) b' ∧ CB tot b' o' br' ∧ ∀ k, k ≠ 1 → k ≠ 2 → o' k = o k := by
  have bth := hX.2.2.2.2.2.2.2.2.2.2.2.2.2.2.2.2.2.2.2.2.2.2.2.2.2.2.2.1
  have hT4 : T ≤ 4 := hX.2.2.1
  have hl := okl_len hT4 hj hp
  have hh := hrs_le bth hp
  have rs := vt_spec hn hX hj hpo hN hc hcb hp
  have p4 : ∀ k, k ≤ 4 → 4 ^ k ≤ 256 := by decide +kernel
  have cp := cdl_lt hT4 hp
  have pp := p4 p.length (by omega)
  obtain ⟨q1, q2, q3, q4, e1⟩ := rs.2.1 (upd (upd (upd (upd t0 0 (O p.length 0)) 1 (O p.length 1)) 2 (O p.length 2)) 3 (O p.length 3)) (va_cpy (F6 p.length) tw 0 0 7) (va_cpy (F7 p.length) tl 0 0 7) tv (hO.cg hX.1.1 rfl rfl rfl (fun g hg => cpy_lo (by have := hX.1.1; omega)) (fun g hg => cpy_lo (by have := hX.1.1; omega)) (fun _ _ => rfl)) (60 - hrs r p) (by omega)
  have e0 : (60 : Int32) - nI (hrs r p) = nI (60 - hrs r p) := pk_sub (a := 60) (by omega)
  have tl61 := totv_le (hrs r p) (VT n G X r po q0 p)
  rw [← htot p] at tl61
  have tc := totC (h := hrs r p) (by omega) rs.1
  rw [← htot p] at tc
  have yes : tot p ≤ 60 → (∀ q, V q → kyl tot p ≤ kyl tot q) → BST tot (fun v => V v ∨ v = p) (some p) := fun h1 h2 => ⟨Or.inr rfl, h1, fun q hq => by
    rcases hq with z | z
    · exact h2 q z
    · rw [z]; exact Nat.le_refl _⟩
  have cb : CB tot (some p) (upd (upd o 1 (nI (tot p))) 2 (nI p.length)) (va_cpy row br 0 0 4) := ⟨by rw [upd_n _ _ (by decide), upd_s], upd_s _ _ _, fun i hi => by rw [cpy_lo (by omega)]; exact hrow i hi⟩
  have fr : ∀ k, k ≠ 1 → k ≠ 2 → upd (upd o 1 (nI (tot p))) 2 (nI p.length) k = o k := fun k h1 h2 => by rw [upd_n _ _ h2, upd_n _ _ h1]
  rw [fX6_weighRow, if_neg (ckI (by omega) (by omega)), clI (by omega), become_eq, ob3_ss, e0, e1, ob6_ss, tc]
  dsimp only [jn]
  cases b with
  | none =>
    obtain ⟨o1, o2⟩ := hC
    have hB : ∀ q, V q → tot q = 61 := hB
    rw [o1, o2]
    by_cases h60 : tot p ≤ 60
    · rw [if_pos (show nI (tot p) < 61 from nI_lt (b := 61) (by omega) (by omega))]
      refine ⟨some p, _, _, q1, q2, q3, q4, rfl, yes h60 (fun q hq => ?_), cb, fr⟩
      have := hB q hq
      unfold kyl; omega
    · have e : tot p = 61 := by omega
      rw [e, if_neg (show ¬ nI 61 < 61 by decide), if_pos (show nI 61 = 61 from rfl), if_pos (nI_pos' (by omega))]
      exact ⟨none, o, br, q1, q2, q3, q4, rfl, fun q hq => hq.elim (hB q) (fun z => by rw [z, e]), ⟨o1, o2⟩, fun _ _ _ => rfl⟩
  | some b =>
    obtain ⟨o1, o2, o3⟩ := hC
    obtain ⟨hb1, hb2, hb3⟩ := hB
    have ob := (hV b hb1).1
    have lb := okl_len hT4 hj ob
    have cbl := cdl_lt hT4 ob
    have pb := p4 b.length (by omega)
    rw [o1, o2]
    have keep : kyl tot b ≤ kyl tot p → BST tot (fun v => V v ∨ v = p) (some b) := fun h => ⟨Or.inl hb1, hb2, fun q hq => by
      rcases hq with z | z
      · exact hb3 q z
      · rw [z]; exact h⟩
    by_cases h1 : tot p < tot b
    · rw [if_pos (nI_lt h1 (by omega))]
      refine ⟨some p, _, _, q1, q2, q3, q4, rfl, yes (by omega) (fun q hq => ?_), cb, fr⟩
      exact kyl_a h1 (by omega) (by omega) (hb3 q hq)
    · rw [if_neg (nI_nlt (by omega) (by omega))]
      by_cases h2 : tot p = tot b
      · rw [h2, if_pos rfl]
        by_cases h3 : b.length ≤ p.length
        · rw [if_pos (nI_le h3 (by omega))]
          refine ⟨some b, o, br, q1, q2, q3, q4, rfl, keep ?_, ⟨o1, o2, o3⟩, fun _ _ _ => rfl⟩
          unfold kyl
          by_cases h4 : b.length = p.length
          · have := (hV b hb1).2 (by omega)
            rw [h4, Nat.sub_self, Nat.pow_zero, Nat.div_one] at this
            omega
          · omega
        · rw [if_neg (nI_ge (by omega) (by omega)), ← h2]
          refine ⟨some p, _, _, q1, q2, q3, q4, rfl, yes (by omega) (fun q hq => ?_), cb, fr⟩
          have z := hb3 q hq
          unfold kyl at z ⊢
          rw [h2]
          exact kyl_b (show p.length < b.length by omega) (by omega) z
      · rw [if_neg (fun q => h2 (nI_inj (by omega) (by omega) q))]
        refine ⟨some b, o, br, q1, q2, q3, q4, rfl, keep ?_, ⟨o1, o2, o3⟩, fun _ _ _ => rfl⟩
        unfold kyl; omega
theorem app_split {p : List Nat} : ∀ e : List Nat, e = [] ∨ ∃ e' t, e ++ p = e' ++ t :: p
  | [] => Or.inl rfl
  | a :: e => Or.inr (by
    rcases app_split (p := p) e with z | ⟨e', t, z⟩
    · exact ⟨[], a, by rw [z]; rfl⟩
    · exact ⟨a :: e', t, by rw [List.cons_append, z]; rfl⟩)
theorem ob12_ss {A B C D E F H I J L M N Z : Type} (a : A) (b : B) (c : C) (d : D) (e : E) (f : F) (g : H) (i : I) (j : J) (l : L) (m : M) (n : N) (k : A → B → C → D → E → F → H → I → J → L → M → N → Option Z) : ob12 (some (a, b, c, d, e, f, g, i, j, l, m, n)) k = k a b c d e f g i j l m n := rfl
/-- THE CLASS'S SEARCH from a row on -/
theorem extS {n G D T N S c j0 : Nat} (hn : 100 ≤ n) {X : Nat → Nat → Int32} {r : Nat → Int32} (hX : HX G D T N S X r) (hj : j0 < 2 ^ T) {po : Nat → Int32} (hpo : po 0 = 0) {q0 : Q4} (hN : NR G q0.1 q0.2.1 q0.2.2.1 q0.2.2.2) (hc : q0.2.2.2 14 = nI c) (hcb : c ≤ 500) {tot : List Nat → Nat} (htot : ∀ p, tot p = totv (hrs r p) (VT n G X r po q0 p)) :
    ∀ (d : Nat) (p : List Nat) (V : List Nat → Prop) (b : Option (List Nat)) (o br row t0 tw tl tv : Nat → Int32) (O F6 F7 F8 : Nat → Nat → Int32), okl T j0 p → 5 ≤ d + p.length → NR G (O p.length) (F6 p.length) (F7 p.length) (QT n G X r po q0 p).2.2.2 → O p.length 3 = nI (usl j0 p) → (∀ i, i < p.length → row i = nI (rwl p i)) → BST tot V b → CB tot b o br → (∀ v, V v → okl T j0 v ∧ (p.length ≤ v.length → cdl v / 4 ^ (v.length - p.length) < cdl p)) →
      ∃ b' o' br' row' O' F6' F7' F8' q1 q2 q3 q4, fX6_extend n d (nI p.length) (nI (hrs r p)) o br row O F6 F7 F8 t0 tw tl tv (X 5) (X 6) (X 8) (X 9) (X 10) (X 11) (X 12) (X 13) (X 14) po = some (o', br', row', O', F6', F7', F8', q1, q2, q3, q4, po) ∧ BST tot (fun v => V v ∨ (okl T j0 v ∧ ∃ e, v = e ++ p)) b' ∧ CB tot b' o' br' ∧ (∀ k, k ≠ 1 → k ≠ 2 → o' k = o k) ∧ (∀ i, i ≤ p.length → O' i = O i ∧ F6' i = F6 i ∧ F7' i = F7 i) ∧ (∀ i, i < p.length → row' i = row i) := by
  have bth := hX.2.2.2.2.2.2.2.2.2.2.2.2.2.2.2.2.2.2.2.2.2.2.2.2.2.2.2.1
  have etl := hX.2.2.2.2.2.2.2.2.2.2.2.2.2.2.2.2.2.2.2.2.2.2.2.2.2.2.1
  have hT4 : T ≤ 4 := hX.2.2.1
  have e13 : X 5 13 = nI T := hX.2.2.2.2.2.2.2.2.2.1
  have hG := hX.1.1
  have l4 : (4 : Int32) = nI 4 := rfl
  intro d
  induction d with
  | zero =>
    intro p V b o br row t0 tw tl tv O F6 F7 F8 hp hd
    have := okl_len hT4 hj hp
    omega
  | succ d ih =>
    intro p V b o br row t0 tw tl tv O F6 F7 F8 hp hd hO h3 hrow hB hC hV
    have hl := okl_len hT4 hj hp
    have hus := okl_us hT4 hj hp
    have h16 := pow4 T hT4
    have loop : ∀ (j t f : Nat) (V : List Nat → Prop) (b : Option (List Nat)) (o br row t0 tw tl tv : Nat → Int32) (O F6 F7 F8 : Nat → Nat → Int32), t + j = T → j < f → NR G (O p.length) (F6 p.length) (F7 p.length) (QT n G X r po q0 p).2.2.2 → O p.length 3 = nI (usl j0 p) → (∀ i, i < p.length → row i = nI (rwl p i)) → BST tot V b → CB tot b o br → (∀ v, V v → okl T j0 v ∧ (p.length + 1 ≤ v.length → cdl v / 4 ^ (v.length - (p.length + 1)) < 4 * cdl p + t)) →
      ∃ b' o' br' row' O' F6' F7' F8' q1 q2 q3 q4, fX6_extend_L18 n (fX6_extend n d) (nI p.length) (nI (hrs r p)) (X 5) (X 6) (X 8) (X 9) (X 10) (X 11) (X 12) (X 13) (X 14) (fun a1 a2 a3 a4 a5 a6 a7 a8 a9 a10 a11 a12 => some (a1, a2, a3, a4, a5, a6, a7, a8, a9, a10, a11, a12)) f (nI t) o br row O F6 F7 F8 t0 tw tl tv po = some (o', br', row', O', F6', F7', F8', q1, q2, q3, q4, po) ∧ BST tot (fun v => V v ∨ (okl T j0 v ∧ ∃ e t', t ≤ t' ∧ v = e ++ t' :: p)) b' ∧ CB tot b' o' br' ∧ (∀ k, k ≠ 1 → k ≠ 2 → o' k = o k) ∧ (∀ i, i ≤ p.length → O' i = O i ∧ F6' i = F6 i ∧ F7' i = F7 i) ∧ (∀ i, i < p.length → row' i = row i) := by
      intro j
      induction j with
      | zero =>
        intro t f V b o br row t0 tw tl tv O F6 F7 F8 ht hf hO h3 hrow hB hC hV
        obtain ⟨u, rfl⟩ : ∃ u, f = u + 1 := ⟨f - 1, by omega⟩
        refine ⟨b, o, br, row, O, F6, F7, F8, t0, tw, tl, tv, by rw [fX6_extend_L18, e13, if_pos (nI_le (by omega) (by omega))], hB.congr (fun v => ⟨Or.inl, fun z => ?_⟩), hC, fun _ _ _ => rfl, fun _ _ => ⟨rfl, rfl, rfl⟩, fun _ _ => rfl⟩
        rcases z with z | ⟨z, e, t', h1, h2⟩
        · exact z
        · rw [h2] at z
          have := (okl_app z).2.1
          omega
      | succ j ihj =>
        intro t f V b o br row t0 tw tl tv O F6 F7 F8 ht hf hO h3 hrow hB hC hV
        obtain ⟨u, rfl⟩ : ∃ u, f = u + 1 := ⟨f - 1, by omega⟩
        rw [fX6_extend_L18, e13, if_neg (nI_ge (by omega) (by omega))]
        by_cases h4 : p.length = 4
        · rw [h4, if_pos (show (4 : Int32) ≤ nI 4 by decide)]
          refine ⟨b, o, br, row, O, F6, F7, F8, t0, tw, tl, tv, rfl, hB.congr (fun v => ⟨Or.inl, fun z => ?_⟩), hC, fun _ _ _ => rfl, fun _ _ => ⟨rfl, rfl, rfl⟩, fun _ _ => rfl⟩
          rcases z with z | ⟨z, e, t', h1, h2⟩
          · exact z
          · rw [h2] at z
            have := okl_len hT4 hj (okl_app z)
            simp at this
            omega
        · rw [if_neg (show ¬ (4 : Int32) ≤ nI p.length from nI_ge (b := 4) (by omega) (by omega)), if_neg (ckI (k := p.length) (by omega) (by omega)), clI (k := p.length) (by omega), wasToldS n _ (by omega), ob1_ss, h3, sI]
          by_cases hbit : usl j0 p / 2 ^ t % 2 = 0
          · have hokt : okl T j0 (t :: p) := ⟨hp, by omega, hbit⟩
            have hnb : ¬ bt (nI (usl j0 p)) t = true := fun q => by
              have := (bit_bt _ (by omega) t (by omega)).mp q
              omega
            obtain ⟨k, k1, k2, k3⟩ := bth t (by omega)
            obtain ⟨R, o1, w1, la1, wl1, s1, s2, s3⟩ := ((qt_spec hn hX hj hpo hN hc hcb hp).2 t hokt).2.2.1 (upd (upd (upd (upd (O (p.length + 1)) 0 (O p.length 0)) 1 (O p.length 1)) 2 (O p.length 2)) 3 (O p.length 3)) (va_cpy (F6 p.length) (F6 (p.length + 1)) 0 0 7) (va_cpy (F7 p.length) (F7 (p.length + 1)) 0 0 7) (F8 (p.length + 1)) (hO.cg hG rfl rfl rfl (fun g hg => cpy_lo (by omega)) (fun g hg => cpy_lo (by omega)) (fun _ _ => rfl))
            have s3' : o1 3 = nI (usl j0 (t :: p)) := by
              rw [s3]
              show O p.length 3 ||| _ = _
              rw [h3, bit_or _ (by omega) t (by omega) hbit]; rfl
            obtain ⟨b', o', br', row', O', F6', F7', F8', q1, q2, q3, q4, z1, z2, z3, z4, z5, z6⟩ := ih (t :: p) V b o br (upd row p.length (nI t)) t0 tw tl tv (va_up O (p.length + 1) o1) (va_up F6 (p.length + 1) w1) (va_up F7 (p.length + 1) la1) (va_up F8 (p.length + 1) wl1) hokt (by simp; omega) (by
              show NR G (va_up O (p.length + 1) o1 (p.length + 1)) (va_up F6 (p.length + 1) w1 (p.length + 1)) (va_up F7 (p.length + 1) la1 (p.length + 1)) _
              rw [up_s, up_s, up_s]; exact s2) (by
              show va_up O (p.length + 1) o1 (p.length + 1) 3 = _
              rw [up_s]; exact s3') (fun i hi => by
              simp only [List.length_cons] at hi
              rw [rwl]
              by_cases e : i = p.length
              · rw [if_pos e, e, upd_s]
              · rw [if_neg e, upd_n _ _ e]; exact hrow i (by omega)) hB hC (fun v hv => ⟨(hV v hv).1, fun hlv => by
              have := (hV v hv).2 hlv
              rw [cdl]; exact this⟩)
            have z1' : fX6_extend n d (nI (p.length + 1)) (nI (hrs r p + k)) o br (upd row p.length (nI t)) (va_up O (p.length + 1) o1) (va_up F6 (p.length + 1) w1) (va_up F7 (p.length + 1) la1) (va_up F8 (p.length + 1) wl1) t0 tw tl tv (X 5) (X 6) (X 8) (X 9) (X 10) (X 11) (X 12) (X 13) (X 14) po = some (o', br', row', O', F6', F7', F8', q1, q2, q3, q4, po) := by
              rw [hrs, k3, clI (by omega)] at z1
              exact z1
            rw [if_neg hnb, if_pos i00, if_neg (ckI (k := p.length + 1) (by omega) (by omega)), clI (k := p.length + 1) (by omega), if_neg (ckK (k := p.length) (by omega) (by omega)), become_eq, ob3_ss, if_neg (ckK (k := p.length + 1) (by omega) (by omega)), s1, ob6_ss, if_neg (ckK (k := p.length) (by omega) (by omega)), if_neg (ckI (k := t) (by omega) (by omega)), clI (k := t) (by omega), (etl t (by omega)).1, k3, addI, z1', ob12_ss, sI]
            have z5p := z5 p.length (by simp)
            have up1 : ∀ i, i ≤ p.length → O' i = O i ∧ F6' i = F6 i ∧ F7' i = F7 i := fun i hi => by
              have := z5 i (by simp; omega)
              rw [up_n _ _ (by omega), up_n _ _ (by omega), up_n _ _ (by omega)] at this
              exact this
            have row1 : ∀ i, i < p.length → row' i = row i := fun i hi => by rw [z6 i (by simp; omega), upd_n _ _ (by omega)]
            have upp := up1 p.length (Nat.le_refl _)
            obtain ⟨b2, o2, br2, row2, O2, F62, F72, F82, y1, y2, y3, y4, x1, x2, x3, x4, x5, x6⟩ := ihj (t + 1) u (fun v => V v ∨ (okl T j0 v ∧ ∃ e, v = e ++ (t :: p))) b' o' br' row' q1 q2 q3 q4 O' F6' F7' F8' (by omega) (by omega) (by rw [upp.1, upp.2.1, upp.2.2]; exact hO) (by rw [upp.1]; exact h3) (fun i hi => by rw [row1 i hi]; exact hrow i hi) z2 z3 (fun v hv => by
              rcases hv with hv | ⟨hv, e, he⟩
              · refine ⟨(hV v hv).1, fun hlv => ?_⟩
                have := (hV v hv).2 hlv
                omega
              · refine ⟨hv, fun hlv => ?_⟩
                subst he
                have ca := cdl_app hT4 hv
                have le : (e ++ t :: p).length - (p.length + 1) = e.length := by simp
                rw [le, ca, cdl]
                omega)
            refine ⟨b2, o2, br2, row2, O2, F62, F72, F82, y1, y2, y3, y4, x1, x2.congr (fun v => ⟨fun z => ?_, fun z => ?_⟩), x3, fun k h1 h2 => (x4 k h1 h2).trans (z4 k h1 h2), fun i hi => ?_, fun i hi => (x6 i hi).trans (row1 i hi)⟩
            · rcases z with (z | ⟨z, e, he⟩) | ⟨z, e, t', h1, h2⟩
              · exact Or.inl z
              · exact Or.inr ⟨z, e, t, Nat.le_refl _, he⟩
              · exact Or.inr ⟨z, e, t', by omega, h2⟩
            · rcases z with z | ⟨z, e, t', h1, h2⟩
              · exact Or.inl (Or.inl z)
              · by_cases ett : t' = t
                · subst ett; exact Or.inl (Or.inr ⟨z, e, h2⟩)
                · exact Or.inr ⟨z, e, t', by omega, h2⟩
            · have a1 := x5 i hi
              have a2 := up1 i hi
              exact ⟨a1.1.trans a2.1, a1.2.1.trans a2.2.1, a1.2.2.trans a2.2.2⟩
          · have hyb : bt (nI (usl j0 p)) t = true := (bit_bt _ (by omega) t (by omega)).mpr (by omega)
            rw [if_pos hyb, if_neg i10, sI]
            obtain ⟨b2, o2, br2, row2, O2, F62, F72, F82, y1, y2, y3, y4, x1, x2, x3, x4, x5, x6⟩ := ihj (t + 1) u V b o br row t0 tw tl tv O F6 F7 F8 (by omega) (by omega) hO h3 hrow hB hC (fun v hv => ⟨(hV v hv).1, fun hlv => by have := (hV v hv).2 hlv; omega⟩)
            refine ⟨b2, o2, br2, row2, O2, F62, F72, F82, y1, y2, y3, y4, x1, x2.congr (fun v => ⟨fun z => ?_, fun z => ?_⟩), x3, x4, x5, x6⟩
            · rcases z with z | ⟨z, e, t', h1, h2⟩
              · exact Or.inl z
              · exact Or.inr ⟨z, e, t', by omega, h2⟩
            · rcases z with z | ⟨z, e, t', h1, h2⟩
              · exact Or.inl z
              · by_cases ett : t' = t
                · subst ett
                  rw [h2] at z
                  exact absurd (okl_app z).2.2 hbit
                · exact Or.inr ⟨z, e, t', by omega, h2⟩
    obtain ⟨b1, o1, br1, q1, q2, q3, q4, e1, e2, e3, e4⟩ := weighS2 hn hX hj hpo hN hc hcb htot hp t0 tw tl tv (F8 := F8) hO hrow hB hC hV
    obtain ⟨b2, o2, br2, row2, O2, F62, F72, F82, y1, y2, y3, y4, x1, x2, x3, x4, x5, x6⟩ := loop T 0 n (fun v => V v ∨ v = p) b1 o1 br1 row q1 q2 q3 q4 O F6 F7 F8 (by omega) (by omega) hO h3 hrow e2 e3 (fun v hv => by
      rcases hv with hv | hv
      · refine ⟨(hV v hv).1, fun hlv => ?_⟩
        have h1 := (hV v hv).2 (by omega)
        have e : 4 ^ (v.length - p.length) = 4 ^ (v.length - (p.length + 1)) * 4 := by rw [← Nat.pow_succ]; exact congrArg (fun z => 4 ^ z) (by omega)
        rw [e, ← Nat.div_div_eq_div_mul] at h1
        omega
      · subst hv; exact ⟨hp, fun hlv => by omega⟩)
    refine ⟨b2, o2, br2, row2, O2, F62, F72, F82, y1, y2, y3, y4, ?_, x2.congr (fun v => ⟨fun z => ?_, fun z => ?_⟩), x3, fun k h1 h2 => (x4 k h1 h2).trans (e4 k h1 h2), x5, x6⟩
    · rw [fX6_extend, if_pos (show nI p.length ≤ 4 from nI_le (b := 4) (by omega) (by omega)), e1, ob7_ss]
      exact x1
    · rcases z with (z | z) | ⟨z, e, t', h1, h2⟩
      · exact Or.inl z
      · subst z; exact Or.inr ⟨hp, [], rfl⟩
      · exact Or.inr ⟨z, e ++ [t'], by rw [h2]; simp⟩
    · rcases z with z | ⟨z, e, he⟩
      · exact Or.inl (Or.inl z)
      · rcases app_split (p := p) e with w | ⟨e', t, w⟩
        · subst w; exact Or.inl (Or.inr he)
        · exact Or.inr ⟨z, e', t, by omega, he.trans w⟩
