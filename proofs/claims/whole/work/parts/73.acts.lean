/-! what an act does: bounds, the ring of the past, images -/
theorem sm_bd {f : Nat → Int32} : ∀ {n : Nat}, n ≤ 8 → (∀ k, k < n → 0 ≤ (f k).toInt ∧ (f k).toInt ≤ 20) → 0 ≤ (sm f n).toInt ∧ (sm f n).toInt ≤ 20 * (n : Int)
  | 0, _, _ => ⟨Int.le_refl 0, Int.le_refl 0⟩
  | n + 1, hn, h => by
    have i := sm_bd (n := n) (by omega) (fun k hk => h k (by omega))
    have j := h n (by omega)
    have e : (sm f n + f n).toInt = (sm f n).toInt + (f n).toInt := by
      rw [Int32.toInt_add]
      exact Int.bmod_eq_of_le (by omega) (by omega)
    rw [sm, e]
    omega
theorem wsum_bd {D : Nat} (hD : D ≤ 8) {dm : Nat → Int32} (hdm : ∀ d, d < D → ∃ k, 1 ≤ k ∧ k ≤ 20 ∧ dm d = nI k) (o dg dr : Nat → Int32) (g : Nat) : 0 ≤ (wsum D o dg dr dm g).toInt ∧ (wsum D o dg dr dm g).toInt ≤ 160 := by
  have h := sm_bd (f := fun d => if dg d = nI g ∧ ((o 1 >>> (dr d &&& 31)) &&& (1 : Int32)) = 1 then dm d else 0) hD (fun k hk => by
    obtain ⟨q, q1, q2, q3⟩ := hdm k hk
    by_cases z : dg k = nI g ∧ ((o 1 >>> (dr k &&& 31)) &&& (1 : Int32)) = 1
    · rw [if_pos z, q3, nI_toInt (by omega)]; omega
    · rw [if_neg z]; decide)
  show 0 ≤ (sm _ D).toInt ∧ (sm _ D).toInt ≤ 160
  omega
/-- who stays where not all are there wants more than what draws him -/
theorem SET.low {G D : Nat} {o w kind dg dr dm : Nat → Int32} (hS : SET G D o w kind dg dr dm) (hD : D ≤ 8) (hdm : ∀ d, d < D → ∃ k, 1 ≤ k ∧ k ≤ 20 ∧ dm d = nI k) {g : Nat} (hg : g < G) (hb : bt (o 1) g = true) (hm : o 1 ≠ mask G) : -160 ≤ (w g).toInt := by
  have h := hS g hg
  have b := wsum_bd hD hdm o dg dr g
  rw [hb, decide_eq_false hm] at h
  simp only [Bool.true_and, Bool.false_and, Bool.not_false, Bool.and_true, decide_eq_false_iff_not] at h
  rw [Int32.le_iff_toInt_le] at h
  have z : (0 : Int32).toInt = 0 := by decide
  have lo := Int32.le_toInt (w g)
  rcases Int.lt_or_le (w g).toInt (-160) with q | q
  · exfalso
    refine h ?_
    rw [z, Int32.toInt_add, Int.bmod_eq_of_le (by omega) (by omega)]
    omega
  · exact q
theorem pass_bd {n G D T N S c L : Nat} {U : Int} (hn : 100 ≤ n) {X : Nat → Nat → Int32} {r : Nat → Int32} (hX : HX G D T N S X r) {po : Nat → Int32} (hpo : po 0 = 0) {o w la st : Nat → Int32} (hN : NR G o w la st) (hc : st 14 = nI c) (hcb : c ≤ 1000) (hL : 160 ≤ L) (hL2 : L ≤ 800000) (hw : ∀ g, g < G → bt (o 1) g = true → -(L : Int) ≤ (w g).toInt ∧ (w g).toInt ≤ U) (wl om : Nat → Int32) :
    ∃ H o' w' la' wl' om' st', fX2_pass n o w la wl (X 5) (X 6) (X 8) (X 9) (X 10) (X 11) (X 12) po = some (H, o', w', la', wl', po) ∧ fX10_hourOf n om r st = some (H, om', st') ∧ NR G o' w' la' st' ∧ st' 14 = nI (c + 1) ∧ (∀ k, k ≠ 22 → om' k = om k) ∧ SET G D o' w' (X 6) (X 10) (X 11) (X 12) ∧ o' 2 = o 2 ∧ o' 3 = o 3 ∧ st' 16 = st 16 ∧ ∀ g, g < G → bt (o' 1) g = true → -((L + 20 : Nat) : Int) ≤ (w' g).toInt ∧ (w' g).toInt ≤ U := by
  obtain ⟨hH, h1G, hT4, hN5, hS6, x50, x51, x58, x59, x513, r6, x150, r7, x153, r8, bc, bw, bg, bp, ew, bwt, bk, bs, inv, bdm, unq, etl, bth, btt, end_, bnh, esi, bsi⟩ := hX
  have hD := hH.2.2.2.2.2.2.2.1
  obtain ⟨H, o', w', la', wl', om', st', e1, e2, g1, g2, g3, g4, g5, g6, g7, g8⟩ := pass_lock (n := n) (by omega) hH (c := c) (by omega) wl om po hN hc hpo
  refine ⟨H, o', w', la', wl', om', st', e1, e2, g1, g2, g4, g6, g7.1, g7.2.1, g7.2.2.2.2, fun g hg hb => ?_⟩
  have hG := hH.1
  have b0 := hw g hg (g7.2.2.1 g (by omega) hb)
  have k := g8 (by rw [hH.2.2.2.1]; exact bg) (fun g hg => by rw [hH.2.2.2.2.2.1 g hg]; exact bs g hg) (fun g hg h => by have := hw g hg h; omega) g hg hb
  refine ⟨?_, by omega⟩
  by_cases hm : o' 1 = mask G
  · have := k.2 hm; omega
  · have := g6.low hD bdm hg hb hm; omega
theorem LED.pass {n G D T N S c : Nat} (hn : 100 ≤ n) {X : Nat → Nat → Int32} {r : Nat → Int32} (hX : HX G D T N S X r) {po : Nat → Int32} (hpo : po 0 = 0) {o w la st : Nat → Int32} (hL : LED G D T (X 6) (X 10) (X 11) (X 12) o w la st) (hc : st 14 = nI c) (hcb : c ≤ 98) (wl om : Nat → Int32) :
    ∃ H o' w' la' wl' om' st', fX2_pass n o w la wl (X 5) (X 6) (X 8) (X 9) (X 10) (X 11) (X 12) po = some (H, o', w', la', wl', po) ∧ fX10_hourOf n om r st = some (H, om', st') ∧ LED G D T (X 6) (X 10) (X 11) (X 12) o' w' la' st' ∧ (∀ k, k ≠ 22 → om' k = om k) := by
  obtain ⟨hN, hS, h3, hT, c', k, hc1, hk, hc2, hk2, hb⟩ := hL
  have e : c' = c := nI_inj (by omega) (by omega) (hc2.symm.trans hc)
  subst e
  obtain ⟨H, o', w', la', wl', om', st', e1, e2, g1, g2, g3, g4, g5, g6, g7, g8⟩ := pass_bd (L := 160 + 50 * c') (U := 219 - 30 * (k : Int)) hn hX hpo hN hc (by omega) (by omega) (by omega) (fun g hg h => by have := hb g hg h; omega) wl om
  refine ⟨H, o', w', la', wl', om', st', e1, e2, ⟨g1, g4, by rw [g6, h3, g7], by rw [g7]; exact hT, c' + 1, k, by omega, hk, g2, ?_, fun g hg h => ?_⟩, g3⟩
  · rw [← g1.2.1, g5, hN.2.1]; exact hk2
  · have := g8 g hg h; omega
theorem LED.cg {G D T : Nat} {kind dg dr dm o w la st o' w' la' st' : Nat → Int32} (hG : G ≤ 7) (h : LED G D T kind dg dr dm o w la st) (h0 : o' 0 = o 0) (h1 : o' 1 = o 1) (h2 : o' 2 = o 2) (h3 : o' 3 = o 3) (hw : ∀ g, g < G → w' g = w g) (hl : ∀ g, g < G → la' g = la g) (hs : ∀ i, i < 17 → st' i = st i) : LED G D T kind dg dr dm o' w' la' st' := by
  obtain ⟨hN, hS, q3, hT, c', k, hc1, hk, hc2, hk2, hb⟩ := h
  refine ⟨hN.cg hG h0 h1 h2 hw hl (fun i hi => hs i (by omega)), fun g hg => ?_, by rw [h3, q3, hs 16 (by omega)], by rw [hs 16 (by omega)]; exact hT, c', k, hc1, hk, by rw [hs 14 (by omega)]; exact hc2, by rw [hs 15 (by omega)]; exact hk2, fun g hg h => ?_⟩
  · have := hS g hg
    unfold wsum at this ⊢
    rw [h1, hw g hg]; exact this
  · rw [hw g hg]; rw [h1] at h; exact hb g hg h
/-! the past as a ring and as a row of rows -/
def PAST (G D T : Nat) (kind dg dr dm o47 : Nat → Int32) (P : Nat → Nat → Nat → Int32) (und : Nat → Int32) (un : Int32) : Prop :=
  ∃ nx u : Nat, u ≤ 16 ∧ nx < 16 ∧ o47 1 = nI nx ∧ o47 2 = nI u ∧ un = nI u ∧ ∀ k, k < u → LED G D T kind dg dr dm (P 0 ((nx + 16 - u + k) % 16)) (P 1 ((nx + 16 - u + k) % 16)) (P 2 ((nx + 16 - u + k) % 16)) (slice und k)
def IMGS (G D T : Nat) (kind dg dr dm : Nat → Int32) (P : Nat → Nat → Nat → Int32) (kep : Nat → Int32) (im mi : Int32) : Prop :=
  ∃ v : Nat, v ≤ 3 ∧ im = nI v ∧ mi = nI v ∧ ∀ k, k < v → LED G D T kind dg dr dm (P 4 k) (P 5 k) (P 6 k) (slice kep k)
theorem NOW.more {n G D T N S : Nat} {X : Nat → Nat → Int32} {Y : Nat → Int64} {c : Int64} {P : Nat → Nat → Nat → Int32} {M : Nat → Nat → Int32} (hB : NOW G D T N S X M) (h : INV n X Y c P M) :
    PAST G D T (X 6) (X 10) (X 11) (X 12) (X 47) P (M 18) (M 0 20) ∧ IMGS G D T (X 6) (X 10) (X 11) (X 12) P (M 19) (X 0 11) (M 0 21) ∧ CACHE n (X 48) (X 49) (X 55) (X 56) (X 57) (X 63) (X 64) (M 15) (M 17) := by
  obtain ⟨-, -, -, -, -, -, a7⟩ := h
  rcases a7 with ⟨b1, b2, G', D', T', N', S', nx, u, v, c1, c2, c3, c4, c5, c6, c7, c8, c9, c10, c11, c12, c13⟩ | ⟨b1, -⟩
  · have eG : G' = G := by
      have := hB.G.1; have := c1.1.1
      exact nI_inj (by omega) (by omega) (c1.1.2.1.symm.trans hB.G.2.1)
    have eD : D' = D := by
      have := hB.G.2.2.2.2.2.2.2.1; have := c1.1.2.2.2.2.2.2.2.1
      exact nI_inj (by omega) (by omega) (c1.1.2.2.2.2.2.2.2.2.1.symm.trans hB.G.2.2.2.2.2.2.2.2.1)
    have eT : T' = T := by
      have hX := hB.2.2.2.2.1
      have := hX.2.2.1; have := c1.2.2.1
      exact nI_inj (by omega) (by omega) (c1.2.2.2.2.2.2.2.2.2.1.symm.trans hX.2.2.2.2.2.2.2.2.2.1)
    subst eG; subst eD; subst eT
    exact ⟨⟨nx, u, c4, c5, c6, c7, c8, c9⟩, ⟨v, c10, c11, c12, c13⟩, c3⟩
  · exact absurd (b1.symm.trans hB.1) (by decide)
def hcore : List Nat := [1, 2, 5, 6, 7, 8, 9, 10, 11, 12, 13, 14, 15, 16, 17, 18, 19, 20]
theorem HX.cg {G D T N S : Nat} {X X' : Nat → Nat → Int32} {r : Nat → Int32} (h : HX G D T N S X r) (hX : ∀ k ∈ hcore, X' k = X k) : HX G D T N S X' r := by
  have e : ∀ k, k ∈ hcore → X' k = X k := hX
  unfold HX at h ⊢
  rw [e 5 (by decide), e 6 (by decide), e 7 (by decide), e 8 (by decide), e 9 (by decide), e 10 (by decide), e 11 (by decide), e 12 (by decide), e 13 (by decide), e 14 (by decide), e 15 (by decide), e 16 (by decide), e 17 (by decide), e 18 (by decide), e 19 (by decide), e 20 (by decide)]
  exact h
/-- INV anew, of a begun evening -/
theorem INV.anew {n G D T N S : Nat} {X X' : Nat → Nat → Int32} {Y Y' : Nat → Int64} {c c' : Int64} {P P' : Nat → Nat → Nat → Int32} {M M' : Nat → Nat → Int32} (h : INV n X Y c P M) (hB : NOW G D T N S X M) (hX : ∀ k ∈ hcore, X' k = X k) (x3 : X' 0 3 = X 0 3) (x4 : X' 0 4 = 0) (h45 : X' 45 0 = X 45 0) (h46 : X' 46 0 = X 46 0)
    (hM : M' 1 = M 1 ∧ M' 15 = M 15) (m11 : M' 0 11 = 0) (hO : M' 0 2 = M 0 2 ∧ M' 0 9 = M 0 9 ∧ M' 0 14 = M 0 14)
    (hL : LED G D T (X 6) (X 10) (X 11) (X 12) (X' 37) (X' 38) (X' 39) (M' 17)) (hP : PAST G D T (X 6) (X 10) (X 11) (X 12) (X' 47) P' (M' 18) (M' 0 20)) (hI : IMGS G D T (X 6) (X 10) (X 11) (X 12) P' (M' 19) (X' 0 11) (M' 0 21))
    (hC : CACHE n (X' 48) (X' 49) (X' 55) (X' 56) (X' 57) (X' 63) (X' 64) (M 15) (M' 17)) : INV n X' Y' c' P' M' := by
  have e : ∀ k, k ∈ hcore → X' k = X k := hX
  obtain ⟨a1, ⟨Tp, t1, t2, t3, t4⟩, a3, a4, a5, a6, -⟩ := h
  obtain ⟨m1, m15⟩ := hM
  obtain ⟨o2, o9, o14⟩ := hO
  obtain ⟨nx, u, c4, c5, c6, c7, c8, c9⟩ := hP
  obtain ⟨v, c10, c11, c12, c13⟩ := hI
  refine ⟨x4.trans m11.symm, ⟨Tp, t1, by rw [e 1 (by decide)]; exact t2, by rw [o2]; exact t3, fun i hi => by rw [e 2 (by decide), m1]; exact t4 i hi⟩, by rw [e 1 (by decide), o9]; exact a3, fun q => absurd (x4.symm.trans q) (by decide), h45.trans a5, h46.trans a6, Or.inl ⟨x3.trans hB.1, o14.trans hB.2.1, G, D, T, N, S, nx, u, v, ?_, ?_, ?_, c4, c5, c6, c7, c8, ?_, c10, c11, c12, ?_⟩⟩
  · rw [m15]; exact hB.2.2.2.2.1.cg hX
  · rw [e 6 (by decide), e 10 (by decide), e 11 (by decide), e 12 (by decide)]; exact hL
  · rw [m15]; exact hC
  · rw [e 6 (by decide), e 10 (by decide), e 11 (by decide), e 12 (by decide)]; exact c9
  · rw [e 6 (by decide), e 10 (by decide), e 11 (by decide), e 12 (by decide)]; exact c13
/-- nothing is remembered of the tales and the cups -/
theorem CACHE.lost {n : Nat} {o48 f49 o55 f56 f57 o63 f64 r st o48' f49' o55' f56' f57' st' : Nat → Int32} (h : CACHE n o48 f49 o55 f56 f57 o63 f64 r st) (h1 : o48' 0 = 0) (h2 : o55' 0 = 0) : CACHE n o48' f49' o55' f56' f57' o63 f64 r st' :=
  ⟨⟨Or.inl h1, fun q => absurd (h1.symm.trans q) (by decide)⟩, ⟨Or.inl h2, fun q => absurd (h2.symm.trans q) (by decide)⟩, h.2.2⟩
theorem mod16 : ∀ a, a < 40 → nI a - nI a / 16 * 16 = nI (a % 16) := by decide +kernel
theorem shift_loop {n : Nat} {om und : Nat → Int32} (K : (Nat → Int32) → Option ((Nat → Int32) × (Nat → Int32))) : ∀ (j k f : Nat) (g : Nat → Int32), k + j = 255 → j < f → (∀ i, i < k → g i = und (i + 17)) → (∀ i, k ≤ i → g i = und i) → ∃ g', (∀ i, i < 255 → g' i = und (i + 17)) ∧ fX10_note_L11 n om K f (nI k) g = K g' := by
  have l255 : (255 : Int32) = nI 255 := rfl
  have l17 : (17 : Int32) = nI 17 := rfl
  intro j
  induction j with
  | zero =>
    intro k f g hk hf h1 h2
    obtain ⟨u, rfl⟩ : ∃ u, f = u + 1 := ⟨f - 1, by omega⟩
    exact ⟨g, fun i hi => h1 i (by omega), by rw [fX10_note_L11, l255, if_pos (nI_le (by omega) (by omega))]⟩
  | succ j ih =>
    intro k f g hk hf h1 h2
    obtain ⟨u, rfl⟩ : ∃ u, f = u + 1 := ⟨f - 1, by omega⟩
    rw [fX10_note_L11, l255, if_neg (nI_ge (by omega) (by omega)), l17, addI, if_neg (ckI (k := k + 17) (by omega) (by omega)), if_neg (ckI (k := k) (by omega) (by omega)), clI (k := k) (by omega), clI (k := k + 17) (by omega), sI]
    refine ih (k + 1) u _ (by omega) (by omega) (fun i hi => ?_) (fun i hi => ?_)
    · by_cases e : i = k
      · subst e; rw [upd_s, h2 _ (by omega)]
      · rw [upd_n _ _ e]; exact h1 i (by omega)
    · rw [upd_n _ _ (by omega)]; exact h2 i (by omega)
theorem cpy_in {f g : Nat → Int32} {a b m i : Nat} (h1 : b ≤ i) (h2 : i < b + m) : va_cpy f g a b m i = f (a + (i - b)) := by rw [va_cpy, if_pos ⟨h1, h2⟩]
theorem cpy_out {f g : Nat → Int32} {a b m i : Nat} (h : i < b ∨ b + m ≤ i) : va_cpy f g a b m i = g i := by rw [va_cpy, if_neg (fun q => by omega)]
theorem up_s {A : Type} (P : Nat → A) (k : Nat) (v : A) : va_up P k v k = v := by rw [va_up, if_pos rfl]
theorem up_n {A : Type} (P : Nat → A) {k j : Nat} (v : A) (h : j ≠ k) : va_up P k v j = P j := by rw [va_up, if_neg h]
/-- an act is kept by both -/
theorem keep_note {n G D T : Nat} (hn : 300 ≤ n) (hG : G ≤ 7) {kind dg dr dm o47 und om o w la st : Nat → Int32} {P : Nat → Nat → Nat → Int32} (hP : PAST G D T kind dg dr dm o47 P und (om 20)) (hL : LED G D T kind dg dr dm o w la st) :
    ∃ o47' p0 p1 p2 om' und', fX4_keep n o47 (P 0) (P 1) (P 2) (P 3) o w la = some (o47', p0, p1, p2, P 3) ∧ fX10_note n om st und = some (om', und') ∧ PAST G D T kind dg dr dm o47' (va_up (va_up (va_up (va_up P 0 p0) 1 p1) 2 p2) 3 (P 3)) und' (om' 20) ∧ ∀ k, k ≠ 20 → om' k = om k := by
  have l16 : (16 : Int32) = nI 16 := rfl
  have l17 : (17 : Int32) = nI 17 := rfl
  obtain ⟨nx, u, hu, hnx, e1, e2, e3, hK⟩ := hP
  have hc1 : LED G D T kind dg dr dm (upd (upd (upd (upd (P 0 nx) 0 (o 0)) 1 (o 1)) 2 (o 2)) 3 (o 3)) (va_cpy w (P 1 nx) 0 0 7) (va_cpy la (P 2 nx) 0 0 7) st := hL.cg hG rfl rfl rfl rfl (fun g hg => cpy_lo (by omega)) (fun g hg => cpy_lo (by omega)) (fun _ _ => rfl)
  have hm : nI nx + 1 - (nI nx + 1) / 16 * 16 = nI ((nx + 1) % 16) := by rw [sI]; exact mod16 _ (by omega)
  rw [fX4_keep, e1, if_neg (ckI (by omega) (by omega)), clI (by omega), become_eq, ob3_ss, e2, hm]
  by_cases h16 : u = 16
  · subst h16
    rw [if_pos (show (16 : Int32) ≤ nI 16 by decide)]
    obtain ⟨g, hg, eg⟩ := shift_loop (n := n) (om := om) (und := und) (fun f => ob1 (fX10_copy n 0 (17 * ((upd om 20 (om 20 - 1)) 20)) 17 17 272 st f) (fun u_1 => some ((upd (upd om 20 (om 20 - 1)) 20 (((upd om 20 (om 20 - 1)) 20) + 1)), u_1))) 255 0 n und (by omega) (by omega) (fun i hi => absurd hi (Nat.not_lt_zero i)) (fun _ _ => rfl)
    have h15 : (17 : Int32) * ((upd om 20 (om 20 - 1)) 20) = nI 255 := by rw [upd_s, e3]; decide
    refine ⟨_, _, _, _, upd (upd om 20 (om 20 - 1)) 20 (((upd om 20 (om 20 - 1)) 20) + 1), va_cpy st g 0 255 17, rfl, ?_, ⟨(nx + 1) % 16, 16, by omega, by omega, by rw [upd_s], by rw [upd_n _ _ (by decide)]; exact e2, by rw [upd_s, upd_s, e3]; decide, fun k hk => ?_⟩, fun k hk => by rw [upd_n _ _ hk, upd_n _ _ hk]⟩
    · rw [fX10_note]
      dsimp only [jn]
      rw [if_pos (by rw [e3]; rfl)]
      refine (show fX10_note_L11 n om _ n 0 und = _ from eg).trans ?_
      rw [h15]
      show ob1 (fX10_copy n (nI 0) (nI 255) (nI 17) 17 272 st g) _ = _
      rw [copyS (by omega) (by omega) (by omega) (by omega) (by omega), ob1_ss]
    · show LED G D T kind dg dr dm (va_up (P 0) nx _ _) (va_up (P 1) nx _ _) (va_up (P 2) nx _ _) _
      by_cases hk15 : k = 15
      · subst hk15
        have ei : ((nx + 1) % 16 + 16 - 16 + 15) % 16 = nx := by omega
        rw [ei, up_s, up_s, up_s]
        exact hc1.cg hG rfl rfl rfl rfl (fun _ _ => rfl) (fun _ _ => rfl) (fun i hi => by rw [slice, cpy_in (by omega) (by omega)]; exact congrArg st (by omega))
      · have ei : ((nx + 1) % 16 + 16 - 16 + k) % 16 ≠ nx := by omega
        rw [up_n _ _ ei, up_n _ _ ei, up_n _ _ ei]
        have hk1 := hK (k + 1) (by omega)
        have ej : ((nx + 1) % 16 + 16 - 16 + k) % 16 = (nx + 16 - 16 + (k + 1)) % 16 := by omega
        rw [ej]
        exact hk1.cg hG rfl rfl rfl rfl (fun _ _ => rfl) (fun _ _ => rfl) (fun i hi => by rw [slice, slice, cpy_out (by omega), hg _ (by omega)]; exact congrArg und (by omega))
  · rw [l16, if_neg (nI_ge (by omega) (by omega)), sI]
    refine ⟨_, _, _, _, upd om 20 (om 20 + 1), va_cpy st und 0 (17 * u) 17, rfl, ?_, ⟨(nx + 1) % 16, u + 1, by omega, by omega, by rw [upd_n _ _ (by decide), upd_s], by rw [upd_s], by rw [upd_s, e3, sI], fun k hk => ?_⟩, fun k hk => upd_n _ _ hk⟩
    · rw [fX10_note]
      dsimp only [jn]
      rw [e3, l16, if_neg (fun q => h16 (nI_inj (by omega) (by omega) q)), l17, mulI]
      show ob1 (fX10_copy n (nI 0) (nI (17 * u)) (nI 17) 17 272 st und) _ = _
      rw [copyS (by omega) (by omega) (by omega) (by omega) (by omega), ob1_ss]
    · show LED G D T kind dg dr dm (va_up (P 0) nx _ _) (va_up (P 1) nx _ _) (va_up (P 2) nx _ _) _
      by_cases hku : k = u
      · subst hku
        have ei : ((nx + 1) % 16 + 16 - (k + 1) + k) % 16 = nx := by omega
        rw [ei, up_s, up_s, up_s]
        exact hc1.cg hG rfl rfl rfl rfl (fun _ _ => rfl) (fun _ _ => rfl) (fun i hi => by rw [slice, cpy_in (by omega) (by omega)]; exact congrArg st (by omega))
      · have ei : ((nx + 1) % 16 + 16 - (u + 1) + k) % 16 ≠ nx := by omega
        rw [up_n _ _ ei, up_n _ _ ei, up_n _ _ ei]
        have ej : ((nx + 1) % 16 + 16 - (u + 1) + k) % 16 = (nx + 16 - u + k) % 16 := by omega
        rw [ej]
        exact (hK k (by omega)).cg hG rfl rfl rfl rfl (fun _ _ => rfl) (fun _ _ => rfl) (fun i hi => by rw [slice, slice, cpy_out (by omega)])
