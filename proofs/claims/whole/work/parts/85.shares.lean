/-! the class's shares and the reference's, together -/
theorem ob8_ss {A B C D E F H I Z : Type} (a : A) (b : B) (c : C) (d : D) (e : E) (f : F) (g : H) (i : I) (k : A → B → C → D → E → F → H → I → Option Z) : ob8 (some (a, b, c, d, e, f, g, i)) k = k a b c d e f g i := rfl
theorem ob9_ss {A B C D E F H I J Z : Type} (a : A) (b : B) (c : C) (d : D) (e : E) (f : F) (g : H) (i : I) (j : J) (k : A → B → C → D → E → F → H → I → J → Option Z) : ob9 (some (a, b, c, d, e, f, g, i, j)) k = k a b c d e f g i j := rfl
/-- the reference at (g, left): from the number a to a', its row from f to f' (x: the rows are compared) -/
def TRY (n G : Nat) (M : Nat → Nat → Int32) (j g left : Nat) (x : Bool) (a a' : Nat) (row f f' : Nat → Int32) : Prop :=
  ∀ (d : Nat) (om tr cu be : Nat → Int32), j < d → om 32 = mv a → (∀ i, i < g → cu i = row i) → (x = true → a ≠ 0 → ∀ i, i < G → be i = f i) →
    ∃ om' tr' cu' be', fX10_tryCups n d (nI g) (nI left) om (M 15) (M 17) tr cu be = some (om', tr', cu', be') ∧ om' 32 = mv a' ∧ (x = true → a' ≠ 0 → ∀ i, i < G → be' i = f' i) ∧ (∀ i, i < g → cu' i = cu i) ∧ (∀ k, k ≠ 22 → k ≠ 24 → k ≠ 32 → om' k = om k)
theorem shareS {n G D T N S cups : Nat} (hn : 100 ≤ n) {X M : Nat → Nat → Int32} (hB : NOW G D T N S X M) (hcu : cups ≤ 4) :
    ∀ (j g left d a m : Nat) (o f2 f3 f4 t0 tw tl tv : Nat → Int32), g + j = G → j < d → left ≤ 4 → a ≤ 62 → m ≤ a → o 1 = cv a → f3 cups = cv m → (a = 62 → m = 62) →
      ∃ a' m' o' f2' f3' f4' q1 q2 q3 q4, fX0_share n d (nI cups) (nI g) (nI left) o f2 f3 f4 t0 tw tl tv (X 5) (X 6) (X 8) (X 9) (X 10) (X 11) (X 12) (X 37) (X 38) (X 39) (X 45) = some (o', f2', f3', f4', q1, q2, q3, q4, X 45) ∧ a' ≤ 62 ∧ m' ≤ a' ∧ a ≤ a' ∧ o' 1 = cv a' ∧ f3' cups = cv m' ∧ (a' = 62 → m' = 62) ∧ (left = 0 → 1 ≤ a') ∧ (∀ k, k ≠ 1 → o' k = o k) ∧ (∀ i, i ≠ cups → f3' i = f3 i) ∧ (∀ i, i < g → f4' i = f4 i) ∧ TRY n G M j g left true a a' f4 f2 f2' ∧ TRY n G M j g left false m m' f4 f2 f2' := by
  have hG := hB.G.1
  intro j
  induction j with
  | zero =>
    intro g left d a m o f2 f3 f4 t0 tw tl tv hg hd hl ha hm ho hf3 ham
    obtain ⟨d, rfl⟩ : ∃ u, d = u + 1 := ⟨d - 1, by omega⟩
    have e : g = G := by omega
    subst e
    have quiet : ∀ (b : Bool) (z : Nat), z ≤ 62 → (left ≠ 0 ∨ z = 62) → TRY n g M 0 g left b z z f4 f2 f2 := fun b z hz hq d om tr cu be hd h32 _ hbe => by
      obtain ⟨d, rfl⟩ : ∃ u, d = u + 1 := ⟨d - 1, by omega⟩
      refine ⟨om, tr, cu, be, ?_, h32, hbe, fun _ _ => rfl, fun _ _ _ _ => rfl⟩
      rw [fX10_tryCups, hB.G.2.2.1, if_pos rfl]
      by_cases hl0 : left = 0
      · subst hl0
        have z62 : z = 62 := hq.resolve_left (fun q => q rfl)
        rw [if_neg (by decide), if_pos (by rw [h32, z62]; rfl)]
      · rw [if_pos (show (0 : Int32) < nI left from nI_lt (a := 0) (by omega) (by omega))]
    by_cases h62 : a = 62
    · have m62 := ham h62
      subst h62; subst m62
      exact ⟨62, 62, o, f2, f3, f4, t0, tw, tl, tv, by rw [fX0_share, ho, if_neg (by decide)], ha, hm, Nat.le_refl _, ho, hf3, ham, fun _ => by omega, fun _ _ => rfl, fun _ _ => rfl, fun _ _ => rfl, quiet _ _ ha (Or.inr rfl), quiet _ _ ha (Or.inr rfl)⟩
    · by_cases hl0 : left = 0
      · subst hl0
        obtain ⟨v, hv, cls, mdl⟩ := leafC hn hB f4
        obtain ⟨ev1, ev2, ev3, ev4⟩ := evn_le hv
        obtain ⟨w', o1, w1, l1, v1, c1, c2⟩ := cls (nI cups) o t0 tw tl tv (fun f => ob6 (fX2_runOut n 60 (upd (upd (upd (upd t0 0 (X 37 0)) 1 (X 37 1)) 2 (X 37 2)) 3 (X 37 3)) f (va_cpy (X 39) tl 0 0 7) tv (X 5) (X 6) (X 8) (X 9) (X 10) (X 11) (X 12) (X 45)) (fun u_9 u_10 u_11 u_12 u_13 u_14 => if nI cups < 0 ∨ 5 ≤ (nI cups).toNatClampNeg then none else if nI cups < 0 ∨ 5 ≤ (nI cups).toNatClampNeg then none else if u_9 ≤ (o 1) then some (o, f2, (upd f3 (nI cups).toNatClampNeg (if (f3 (nI cups).toNatClampNeg) < u_9 then u_9 else (f3 (nI cups).toNatClampNeg))), u_10, u_11, u_12, u_13, u_14) else some ((upd o 1 u_9), (va_cpy f4 f2 0 0 7), (upd f3 (nI cups).toNatClampNeg (if (f3 (nI cups).toNatClampNeg) < u_9 then u_9 else (f3 (nI cups).toNatClampNeg))), u_10, u_11, u_12, u_13, u_14)))
        have one : ∀ (b : Bool) (z : Nat) (f f' : Nat → Int32), z ≤ 61 → (b = true → z < evn v → ∀ i, i < g → f' i = f4 i) → (b = true → ¬ z < evn v → f' = f) → TRY n g M 0 g 0 b z (if z < evn v then evn v else z) f4 f f' := fun b z f f' hz hf1 hf2 d om tr cu be hd h32 hcu' hbe => by
          obtain ⟨d, rfl⟩ : ∃ u, d = u + 1 := ⟨d - 1, by omega⟩
          obtain ⟨s', om', s2, m1, m2, m3⟩ := mdl (fX10_tryCups n d) om tr cu (fun f => ob3 (fX10_endsOn n 0 om (M 15) f) (fun u_22 u_23 u_24 => jn (fun s0_101 => if (u_23 32) < s0_101 then ob1 (fX10_copy n 0 0 7 7 7 cu be) (fun u_27 => some ((upd u_23 32 s0_101), u_24, cu, u_27)) else some (u_23, u_24, cu, be)) (fun J101 => if 0 ≤ u_22 then J101 u_22 else J101 1000000))) hcu'
          have o32 : om' 32 = mv z := (m3 32 (by decide) (by decide)).trans h32
          have cpy : fX10_copy n 0 0 7 7 7 cu be = some (va_cpy cu be 0 0 7) := copyS (a := 0) (b := 0) (m := 7) (by omega) (by omega) (by omega) (by omega) (by omega) cu be
          have body : fX10_tryCups n (d + 1) (nI g) (nI 0) om (M 15) (M 17) tr cu be = (if mv z < mv (evn v) then some ((upd om' 32 (mv (evn v))), s2, cu, va_cpy cu be 0 0 7) else some (om', s2, cu, be)) := by
            rw [fX10_tryCups, hB.G.2.2.1, if_pos rfl, if_neg (by decide), if_neg (by rw [h32]; exact mv_ne z hz), copy17 hn, ob1_ss]
            refine (show _ = _ from m1).trans ?_
            rw [m2, ob3_ss, cpy]
            dsimp only [jn]
            rw [o32]
            rcases ev4 with ⟨q1, q2⟩ | ⟨q1, q2⟩
            · rw [if_pos q2, q1]; rfl
            · rw [if_neg q2, q1]; rfl
          rw [body]
          by_cases hlt : z < evn v
          · rw [if_pos hlt, if_pos ((mv_lt z (by omega) _ ev2).mpr hlt)]
            exact ⟨_, _, _, _, rfl, upd_s _ _ _, fun hb _ i hi => by rw [cpy_lo (by omega), hcu' i hi]; exact (hf1 hb hlt i hi).symm, fun _ _ => rfl, fun k h1 h2 h3 => by rw [upd_n _ _ h3]; exact m3 k h1 h2⟩
          · rw [if_neg hlt, if_neg (fun q => hlt ((mv_lt z (by omega) _ ev2).mp q))]
            exact ⟨_, _, _, _, rfl, o32, fun h1 h2 i hi => by rw [hf2 h1 hlt]; exact hbe h1 h2 i hi, fun _ _ => rfl, fun k h1 h2 _ => m3 k h1 h2⟩
        have f3e : (if f3 cups < cv (evn v) then cv (evn v) else f3 cups) = cv (if m < evn v then evn v else m) := by
          rw [hf3]
          by_cases q : m < evn v
          · rw [if_pos q, if_pos ((cv_lt m (by omega) _ ev2).mpr q)]
          · rw [if_neg q, if_neg (fun z => q ((cv_lt m (by omega) _ ev2).mp z))]
        have run : fX0_share n (d + 1) (nI cups) (nI g) (nI 0) o f2 f3 f4 t0 tw tl tv (X 5) (X 6) (X 8) (X 9) (X 10) (X 11) (X 12) (X 37) (X 38) (X 39) (X 45) = (if evn v ≤ a then some (o, f2, upd f3 cups (cv (if m < evn v then evn v else m)), f4, o1, w1, l1, v1, X 45) else some (upd o 1 (cv (evn v)), va_cpy f4 f2 0 0 7, upd f3 cups (cv (if m < evn v then evn v else m)), f4, o1, w1, l1, v1, X 45)) := by
          rw [fX0_share, ho, if_pos ((cv_60 a ha).mpr (by omega)), hB.G.2.1, if_pos (Int32.le_refl _), if_pos (show nI 0 = 0 from rfl), fX0_weighShare, become_eq, ob3_ss]
          refine (congrArg (fun z => ob8 z _) (show _ = _ from c1)).trans ?_
          rw [c2, ob6_ss, if_neg (ckI (by omega) (by omega)), if_neg (ckI (by omega) (by omega)), clI (by omega), ev3, f3e, ho]
          by_cases q : evn v ≤ a
          · rw [if_pos q, if_pos ((cv_le _ ev2 a ha).mpr q), ob8_ss]
          · rw [if_neg q, if_neg (fun z => q ((cv_le _ ev2 a ha).mp z)), ob8_ss]
        rw [run]
        have mm : (if m < evn v then evn v else m) ≤ (if a < evn v then evn v else a) := by
          by_cases q : a < evn v
          · rw [if_pos q, if_pos (by omega)]; exact Nat.le_refl _
          · rw [if_neg q]
            by_cases q2 : m < evn v
            · rw [if_pos q2]; omega
            · rw [if_neg q2]; exact hm
        by_cases q : evn v ≤ a
        · rw [if_pos q]
          have ea : (if a < evn v then evn v else a) = a := if_neg (by omega)
          have t1 := one true a f2 f2 (by omega) (fun _ z => absurd z (by omega)) (fun _ _ => rfl)
          rw [ea] at t1 mm
          exact ⟨a, _, o, f2, _, f4, o1, w1, l1, v1, rfl, ha, mm, Nat.le_refl _, ho, upd_s _ _ _, fun z => absurd z h62, fun _ => by omega, fun _ _ => rfl, fun i hi => upd_n _ _ hi, fun _ _ => rfl, t1, one false m f2 f2 (by omega) (fun z => absurd z (by decide)) (fun z => absurd z (by decide))⟩
        · rw [if_neg q]
          have ea : (if a < evn v then evn v else a) = evn v := if_pos (by omega)
          have em : (if m < evn v then evn v else m) = evn v := if_pos (by omega)
          have t1 := one true a f2 (va_cpy f4 f2 0 0 7) (by omega) (fun _ _ i hi => cpy_lo (by omega)) (fun _ z => absurd (show a < evn v by omega) z)
          have t2 := one false m f2 (va_cpy f4 f2 0 0 7) (by omega) (fun _ _ i hi => cpy_lo (by omega)) (fun _ z => absurd (show m < evn v by omega) z)
          rw [ea] at t1
          rw [em] at t2 ⊢
          exact ⟨evn v, evn v, _, _, _, f4, o1, w1, l1, v1, rfl, ev2, Nat.le_refl _, by omega, upd_s _ _ _, upd_s _ _ _, fun z => z, fun _ => ev1, fun k hk => upd_n _ _ hk, fun i hi => upd_n _ _ hi, fun _ _ => rfl, t1, t2⟩
      · exact ⟨a, m, o, f2, f3, f4, t0, tw, tl, tv, by rw [fX0_share, ho, if_pos ((cv_60 a ha).mpr (by omega)), hB.G.2.1, if_pos (Int32.le_refl _), if_neg (nI_ne0 (by omega) (by omega))], ha, hm, Nat.le_refl _, ho, hf3, ham, fun z => absurd z hl0, fun _ _ => rfl, fun _ _ => rfl, fun _ _ => rfl, quiet _ _ ha (Or.inl hl0), quiet _ _ (by omega) (Or.inl hl0)⟩
  | succ j ih =>
    intro g left d a m o f2 f3 f4 t0 tw tl tv hg hd hl ha hm ho hf3 ham
    obtain ⟨d, rfl⟩ : ∃ u, d = u + 1 := ⟨d - 1, by omega⟩
    by_cases h62 : a = 62
    · have m62 := ham h62
      subst h62; subst m62
      have quiet : ∀ b, TRY n G M (j + 1) g left b 62 62 f4 f2 f2 := fun b d om tr cu be hd h32 _ hbe => by
        obtain ⟨om', tr', cu', e1, e2, e3, e4⟩ := muchS hn hB (j + 1) g left d om tr cu be hg hd hl h32
        exact ⟨om', tr', cu', be, e1, e2, hbe, e3, e4⟩
      exact ⟨62, 62, o, f2, f3, f4, t0, tw, tl, tv, by rw [fX0_share, ho, if_neg (by decide)], ha, hm, Nat.le_refl _, ho, hf3, ham, fun _ => by omega, fun _ _ => rfl, fun _ _ => rfl, fun _ _ => rfl, quiet _, quiet _⟩
    · have hpr : bt (X 37 1) g = true ↔ M 17 (7 + g) = 0 := hB.there (by omega)
      -- the loop over c
      have loop : ∀ (most : Nat), (most = left ∧ bt (X 37 1) g = true) ∨ (most = 0 ∧ ¬ bt (X 37 1) g = true) → ∀ (i c f a m : Nat) (o f2 f3 f4 t0 tw tl tv : Nat → Int32), c + i = most + 1 → i < f → a ≤ 62 → m ≤ a → o 1 = cv a → f3 cups = cv m → (a = 62 → m = 62) →
          ∃ a' m' o' f2' f3' f4' q1 q2 q3 q4, fX0_share_L61 n (fX0_share n d) (nI cups) (nI g) (nI left) (nI most) (X 5) (X 6) (X 8) (X 9) (X 10) (X 11) (X 12) (X 37) (X 38) (X 39) (fun a1 a2 a3 a4 a5 a6 a7 a8 a9 => some (a1, a2, a3, a4, a5, a6, a7, a8, a9)) f (nI c) o f2 f3 f4 t0 tw tl tv (X 45) = some (o', f2', f3', f4', q1, q2, q3, q4, X 45) ∧ a' ≤ 62 ∧ m' ≤ a' ∧ a ≤ a' ∧ o' 1 = cv a' ∧ f3' cups = cv m' ∧ (a' = 62 → m' = 62) ∧ (left = 0 → c = 0 → 1 ≤ a') ∧ (∀ k, k ≠ 1 → o' k = o k) ∧ (∀ i, i ≠ cups → f3' i = f3 i) ∧ (∀ i, i < g → f4' i = f4 i) ∧
            ∀ (b : Bool) (d' fu : Nat) (om tr cu be : Nat → Int32), j < d' → i < fu → om 32 = mv (if b = true then a else m) → (∀ i, i < g → cu i = f4 i) → (b = true → a ≠ 0 → ∀ i, i < G → be i = f2 i) →
              ∃ om' tr' cu' be', fX10_tryCups_L134 n (fX10_tryCups n d') (nI g) (nI left) (M 15) (M 17) (fun o a b e => if nI g < 0 ∨ 7 ≤ (nI g).toNatClampNeg then none else some (o, a, upd b (nI g).toNatClampNeg 0, e)) fu (nI c) om tr cu be = some (om', tr', cu', be') ∧ om' 32 = mv (if b = true then a' else m') ∧ (b = true → a' ≠ 0 → ∀ i, i < G → be' i = f2' i) ∧ (∀ i, i < g → cu' i = cu i) ∧ (∀ k, k ≠ 22 → k ≠ 24 → k ≠ 32 → om' k = om k) := by
        intro most hmost i
        induction i with
        | zero =>
          intro c f a m o f2 f3 f4 t0 tw tl tv hc hf ha hm ho hf3 ham
          obtain ⟨u, rfl⟩ : ∃ u, f = u + 1 := ⟨f - 1, by omega⟩
          refine ⟨a, m, o, f2, f3, f4, t0, tw, tl, tv, by rw [fX0_share_L61, if_pos (nI_lt (by omega) (by omega))], ha, hm, Nat.le_refl _, ho, hf3, ham, fun _ q => by omega, fun _ _ => rfl, fun _ _ => rfl, fun _ _ => rfl, fun b d' fu om tr cu be hd' hfu h32 hcu' hbe => ?_⟩
          obtain ⟨fu, rfl⟩ : ∃ w, fu = w + 1 := ⟨fu - 1, by omega⟩
          refine ⟨om, tr, upd cu g 0, be, ?_, h32, hbe, fun i hi => upd_n _ _ (by omega), fun _ _ _ _ => rfl⟩
          rw [fX10_tryCups_L134]
          rcases hmost with ⟨q1, q2⟩ | ⟨q1, q2⟩
          · rw [if_pos (nI_lt (by omega) (by omega)), if_neg (ckI (by omega) (by omega)), clI (by omega)]
          · by_cases hlc : left < c
            · rw [if_pos (nI_lt hlc (by omega)), if_neg (ckI (by omega) (by omega)), clI (by omega)]
            · rw [if_neg (nI_nlt (by omega) (by omega))]
              dsimp only [jn]
              rw [if_neg (nI_ne0 (by omega) (by omega)), isIn_n (by omega) (fun z => q2 (hpr.mpr z)), ob1_ss, if_pos i00, if_neg (ckI (by omega) (by omega)), clI (by omega)]
        | succ i ihi =>
          intro c f a m o f2 f3 f4 t0 tw tl tv hc hf ha hm ho hf3 ham
          obtain ⟨u, rfl⟩ : ∃ u, f = u + 1 := ⟨f - 1, by omega⟩
          have hcl : c ≤ left := by rcases hmost with ⟨q1, -⟩ | ⟨q1, -⟩ <;> omega
          obtain ⟨a1, m1, o1, g2, g3, g4, r1, r2, r3, r4, s1, s2, s3, s4, s5, s6, s7, s8, s9, s10, s11, s12, s13⟩ := ih (g + 1) (left - c) d a m o f2 f3 (upd f4 g (nI c)) t0 tw tl tv (by omega) (by omega) (by omega) ha hm ho hf3 ham
          obtain ⟨a', m', o', f2', f3', f4', q1, q2, q3, q4, x1, x2, x3, x4, x5, x6, x7, x8, x9, x10, x11, x12⟩ := ihi (c + 1) u a1 m1 o1 g2 g3 g4 r1 r2 r3 r4 (by omega) (by omega) s2 s3 s5 s6 s7
          refine ⟨a', m', o', f2', f3', f4', q1, q2, q3, q4, ?_, x2, x3, by omega, x5, x6, x7, fun z1 z2 => by have := s8 (by omega); omega, fun k hk => (x9 k hk).trans (s9 k hk), fun i hi => (x10 i hi).trans (s10 i hi), fun i hi => by rw [x11 i hi, s11 i (by omega), upd_n _ _ (by omega)], fun b d' fu om tr cu be hd' hfu h32 hcu' hbe => ?_⟩
          · rw [fX0_share_L61, if_neg (nI_nlt (by omega) (by omega)), if_neg (ckI (by omega) (by omega)), clI (by omega), pk_sub hcl, sI, sI, s1, ob9_ss, x1]
          · obtain ⟨fu, rfl⟩ : ∃ w, fu = w + 1 := ⟨fu - 1, by omega⟩
            have hcu2 : ∀ i, i < g + 1 → upd cu g (nI c) i = upd f4 g (nI c) i := fun i hi => by
              by_cases e : i = g
              · subst e; rw [upd_s, upd_s]
              · rw [upd_n _ _ e, upd_n _ _ e]; exact hcu' i (by omega)
            have step : ∃ om1 tr1 cu1 be1, fX10_tryCups n d' (nI (g + 1)) (nI (left - c)) om (M 15) (M 17) tr (upd cu g (nI c)) be = some (om1, tr1, cu1, be1) ∧ om1 32 = mv (if b = true then a1 else m1) ∧ (b = true → a1 ≠ 0 → ∀ i, i < G → be1 i = g2 i) ∧ (∀ i, i < g + 1 → cu1 i = upd cu g (nI c) i) ∧ (∀ k, k ≠ 22 → k ≠ 24 → k ≠ 32 → om1 k = om k) := by
              cases b with
              | true =>
                exact s12 d' om tr (upd cu g (nI c)) be hd' h32 hcu2 hbe
              | false =>
                obtain ⟨p1, p2, p3, p4, p5, p6, p7, p8, p9⟩ := s13 d' om tr (upd cu g (nI c)) be hd' h32 hcu2 (fun z => absurd z (by decide))
                exact ⟨p1, p2, p3, p4, p5, p6, fun z => absurd z (by decide), p8, p9⟩
            obtain ⟨om1, tr1, cu1, be1, p1, p2, p3, p4, p5⟩ := step
            obtain ⟨om2, tr2, cu2, be2, y1, y2, y3, y4, y5⟩ := x12 b d' fu om1 tr1 cu1 be1 hd' (by omega) p2 (fun i hi => by rw [p4 i (by omega), s11 i (by omega), hcu2 i (by omega)]) p3
            rw [fX10_tryCups_L134, if_neg (nI_nlt (by omega) (by omega)), pk_sub hcl, sI, sI]
            dsimp only [jn]
            have J : (if nI g < 0 ∨ 7 ≤ (nI g).toNatClampNeg then none else ob4 (fX10_tryCups n d' (nI (g + 1)) (nI (left - c)) om (M 15) (M 17) tr (upd cu (nI g).toNatClampNeg (nI c)) be) (fun u_4 u_5 u_6 u_7 => fX10_tryCups_L134 n (fX10_tryCups n d') (nI g) (nI left) (M 15) (M 17) (fun o a b e => if nI g < 0 ∨ 7 ≤ (nI g).toNatClampNeg then none else some (o, a, upd b (nI g).toNatClampNeg 0, e)) fu (nI (c + 1)) u_4 u_5 u_6 u_7)) = some (om2, tr2, cu2, be2) := by
              rw [if_neg (ckI (k := g) (by omega) (by omega)), show upd cu (nI g).toNatClampNeg (nI c) = upd cu g (nI c) by rw [clI (by omega)], p1, ob4_ss, y1]
            refine ⟨om2, tr2, cu2, be2, ?_, y2, y3, fun i hi => by rw [y4 i hi, p4 i (by omega), upd_n _ _ (by omega)], fun k h1 h2 h3 => (y5 k h1 h2 h3).trans (p5 k h1 h2 h3)⟩
            by_cases hc0 : nI c = 0
            · rw [if_pos hc0]; exact J
            · rw [if_neg hc0]
              have hin : M 17 (7 + g) = 0 := by
                rcases hmost with ⟨-, z⟩ | ⟨z1, -⟩
                · exact hpr.mp z
                · exact absurd (show nI c = 0 by rw [show c = 0 by omega]; rfl) hc0
              rw [isIn_y (by omega) hin, ob1_ss, if_neg i10]; exact J
      have hex : ∃ most : Nat, ((most = left ∧ bt (X 37 1) g = true) ∨ (most = 0 ∧ ¬ bt (X 37 1) g = true)) ∧ most ≤ 4 := by
        by_cases h : bt (X 37 1) g = true
        · exact ⟨left, Or.inl ⟨rfl, h⟩, hl⟩
        · exact ⟨0, Or.inr ⟨rfl, h⟩, by omega⟩
      obtain ⟨most, hmost, hm4⟩ := hex
      obtain ⟨a', m', o', f2', f3', f4', q1, q2, q3, q4, x1, x2, x3, x4, x5, x6, x7, x8, x9, x10, x11, x12⟩ := loop most hmost (most + 1) 0 n a m o f2 f3 f4 t0 tw tl tv (by omega) (by omega) ha hm ho hf3 ham
      have fin : ∀ b, TRY n G M (j + 1) g left b (if b = true then a else m) (if b = true then a' else m') f4 f2 f2' := fun b d' om tr cu be hd' h32 hcu' hbe => by
        obtain ⟨d', rfl⟩ : ∃ w, d' = w + 1 := ⟨d' - 1, by omega⟩
        obtain ⟨om2, tr2, cu2, be2, y1, y2, y3, y4, y5⟩ := x12 b d' n om tr cu be (by omega) (by omega) h32 hcu' (fun z1 z2 => hbe z1 (by rw [if_pos z1]; exact z2))
        refine ⟨om2, tr2, cu2, be2, ?_, y2, fun z1 z2 => y3 z1 (by rw [if_pos z1] at z2; exact z2), y4, y5⟩
        rw [fX10_tryCups, hB.G.2.2.1, if_neg (fun q => by have := nI_inj (by omega) (by omega) q; omega)]
        exact y1
      refine ⟨a', m', o', f2', f3', f4', q1, q2, q3, q4, ?_, x2, x3, x4, x5, x6, x7, fun z => x8 z rfl, x9, x10, x11, fin true, fin false⟩
      rw [fX0_share, ho, if_pos ((cv_60 a ha).mpr (by omega)), hB.G.2.1, if_neg (nI_ge (by omega) (by omega)), if_pos (show nI g < 7 from nI_lt (b := 7) (by omega) (by omega))]
      rcases hmost with ⟨z1, z2⟩ | ⟨z1, z2⟩
      · rw [has_y (by omega) z2, ob1_ss, if_neg i10]
        subst z1; exact x1
      · rw [has_n (by omega) z2, ob1_ss, if_pos i00]
        subst z1; exact x1
