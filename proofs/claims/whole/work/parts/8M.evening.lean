/-! evening: class and reference together -/
theorem copy266 {n : Nat} (hn : 300 ≤ n) (f g : Nat → Int32) : fX10_copy n 0 0 266 266 266 f g = some (va_cpy f g 0 0 266) := copyS (a := 0) (b := 0) (m := 266) (by omega) (by omega) (by omega) (by omega) (by omega) f g
theorem zero_loop {n : Nat} {x : Int32} {om : Nat → Int32} : ∀ (j k f : Nat) (fr : Nat → Int32), k + j = 266 → j < f → (∀ i, i < k → fr i = 0) → ∃ fr' : Nat → Int32, (∀ i, i < 266 → fr' i = 0) ∧ ∀ K, fX10_evening_L39 n x om K f (nI k) fr = K fr' := by
  intro j
  induction j with
  | zero =>
    intro k f fr hk hf h
    obtain ⟨u, rfl⟩ : ∃ u, f = u + 1 := ⟨f - 1, by omega⟩
    exact ⟨fr, fun i hi => h i (by omega), fun K => by rw [fX10_evening_L39, if_pos (show (266 : Int32) ≤ nI k from nI_le (a := 266) (by omega) (by omega))]⟩
  | succ j ih =>
    intro k f fr hk hf h
    obtain ⟨u, rfl⟩ : ∃ u, f = u + 1 := ⟨f - 1, by omega⟩
    obtain ⟨fr', h1, h2⟩ := ih (k + 1) u (upd fr k 0) (by omega) (by omega) (fun i hi => by
      by_cases e : i = k
      · subst e; rw [upd_s]
      · rw [upd_n _ _ e]; exact h i (by omega))
    exact ⟨fr', h1, fun K => by rw [fX10_evening_L39, if_neg (show ¬ (266 : Int32) ≤ nI k from nI_ge (b := 266) (by omega) (by omega)), if_neg (ckI (by omega) (by omega)), clI (by omega), sI, h2]⟩
theorem ok_evening {n : Nat} (hn : 2000 ≤ n) {X : Nat → Nat → Int32} {Y : Nat → Int64} {c : Int64} {P : Nat → Nat → Nat → Int32} {M : Nat → Nat → Int32} (hI : INV n X Y c P M) (hB : TBs X) (x1 : Int32) : ∃ r sw y0 y1 c' Y' y3 y4 y21 y22 y23 y24 y25 y26 y27 y28 y29 y30 y31 y32 y33 y34 y35 y36 y37 y38 y39 y47 y48 y55 y63 z0 z12 z15 z16 z17, fX9_evening n x1 (X 0) (X 1) c (X 2) Y (X 3) (X 4) (X 21) (X 22) (X 23) (X 24) (X 25) (X 26) (X 27) (X 28) (X 29) (X 30) (X 31) (X 32) (X 33) (X 34) (X 35) (X 36) (X 37) (X 38) (X 39) (X 47) (X 48) (X 55) (X 63) = some (r, sw, y0, y1, c', Y', y3, y4, y21, y22, y23, y24, y25, y26, y27, y28, y29, y30, y31, y32, y33, y34, y35, y36, y37, y38, y39, y47, y48, y55, y63) ∧ fX10_evening n x1 (M 0) (M 1) (M 12) (M 15) (M 16) (M 17) = some (r, z0, z12, z15, z16, z17) ∧ INV n (swX sw (va_up (va_up (va_up (va_up (va_up (va_up (va_up (va_up (va_up (va_up (va_up (va_up (va_up (va_up (va_up (va_up (va_up (va_up (va_up (va_up (va_up (va_up (va_up (va_up (va_up (va_up (va_up X 0 y0) 1 y1) 3 y3) 4 y4) 21 y21) 22 y22) 23 y23) 24 y24) 25 y25) 26 y26) 27 y27) 28 y28) 29 y29) 30 y30) 31 y31) 32 y32) 33 y33) 34 y34) 35 y35) 36 y36) 37 y37) 38 y38) 39 y39) 47 y47) 48 y48) 55 y55) 63 y63)) Y' c' P (va_up (va_up (va_up (va_up (va_up M 0 z0) 12 z12) 15 z15) 16 z16) 17 z17) ∧ TBs (swX sw (va_up (va_up (va_up (va_up (va_up (va_up (va_up (va_up (va_up (va_up (va_up (va_up (va_up (va_up (va_up (va_up (va_up (va_up (va_up (va_up (va_up (va_up (va_up (va_up (va_up (va_up (va_up X 0 y0) 1 y1) 3 y3) 4 y4) 21 y21) 22 y22) 23 y23) 24 y24) 25 y25) 26 y26) 27 y27) 28 y28) 29 y29) 30 y30) 31 y31) 32 y32) 33 y33) 34 y34) 35 y35) 36 y36) 37 y37) 38 y38) 39 y39) 47 y47) 48 y48) 55 y55) 63 y63)) := by
  have hI0 := hI
  obtain ⟨i0, ⟨T, t1, t2, t3, t4⟩, i2, i3, i45, i46, i7⟩ := hI
  have m2 : (upd (upd (M 0) 0 0) 11 0) 2 = nI T := t3
  rcases rng n 0 T x1 (by omega) (by omega) with ⟨L, -, k2, k3, k4, -⟩ | ⟨k4, -⟩
  · subst k3
    have k4' : fX10_in n (nI L) 0 (nI T) = some 1 := k4
    have ht : TAPE L (X 2) (M 1) := ⟨by omega, fun i hi => t4 i (by omega), fun i hi => hB T t1 t2 i (by omega)⟩
    obtain ⟨fr0, z1, z2⟩ := zero_loop (n := n) (x := nI L) (om := upd (upd (upd (upd (upd (M 0) 0 0) 11 0) 2 0) 9 0) 13 0) 266 0 n (M 16) (by omega) (by omega) (fun i hi => absurd hi (Nat.not_lt_zero i))
    have z2' : ∀ K, fX10_evening_L39 n (nI L) (upd (upd (upd (upd (upd (M 0) 0 0) 11 0) 2 0) 9 0) 13 0) K n 0 (M 16) = K fr0 := z2
    have key : ∃ v o' c' Y' a13 a14 H' om' lt' fr', fX5_read n (nI L) (X 1) c (X 2) Y (X 3) (X 4) (X 21) (X 22) (X 23) (X 24) (X 25) (X 26) (X 27) (X 28) (X 29) (X 30) (X 31) (X 32) (X 33) (X 34) (X 35) (X 36) = some (v, o', c', Y', a13, a14, H' 5, H' 6, H' 7, H' 8, H' 9, H' 10, H' 11, H' 12, H' 13, H' 14, H' 15, H' 16, H' 17, H' 18, H' 19, H' 20) ∧ (∃ u8 u9 u11 u12 u13, fX10_next n (upd (upd (upd (upd (upd (upd (upd (M 0) 0 0) 11 0) 2 0) 9 0) 13 0) 3 (nI L)) 5 0) (M 1) (M 12) = some (u8, u9) ∧ fX10_readLine n u8 (M 1) u9 fr0 = some (u11, u12, u13) ∧ ∀ K2, fX10_evening_L77 n (M 1) K2 n u11 u12 u13 = K2 om' lt' fr') ∧ FM (upd (upd (upd (upd (upd (upd (upd (M 0) 0 0) 11 0) 2 0) 9 0) 13 0) 3 (nI L)) 5 0) om' ∧ ((v = 1 ∧ om' 13 = 0 ∧ om' 6 = 0 ∧ o' 2 = 0 ∧ om' 9 = 0 ∧ ∃ G D T N S, 1 ≤ G ∧ RH true G D T N S H' fr') ∨ (v = 0 ∧ DEAD o' om') ∨ (v = 0 ∧ om' 13 = 0 ∧ ¬ om' 6 = 0 ∧ DEAD o' (upd (upd (upd om' 13 1) 9 1) 10 (om' 4))) ∨ (v = 0 ∧ om' 13 = 0 ∧ om' 6 = 0 ∧ (fr' 1 = 0 ∨ (¬ fr' 1 = 0 ∧ fr' 3 = 0)) ∧ DEAD o' (upd (upd (upd om' 13 1) 9 6) 10 (om' 4)))) := read_lock (n := n) (L := L) (by omega) ht (X 1) (X 3) (X 4) c Y (fun k => X (k + 16)) rfl rfl rfl rfl z1
    obtain ⟨v, o', c', Y', a13, a14, H', om', lt', fr', e1, ⟨u8, u9, u11, u12, u13, e2, e3, e4⟩, fm, e5⟩ := key
    have bad : ∀ omd : Nat → Int32, v = 0 → DEAD o' omd → FM (upd (upd (upd (upd (upd (upd (upd (M 0) 0 0) 11 0) 2 0) 9 0) 13 0) 3 (nI L)) 5 0) omd → fX10_evening n (nI L) (M 0) (M 1) (M 12) (M 15) (M 16) (M 17) = some (-1, upd omd 11 4, lt', M 15, fr', M 17) → ∃ r sw y0 y1 c' Y' y3 y4 y21 y22 y23 y24 y25 y26 y27 y28 y29 y30 y31 y32 y33 y34 y35 y36 y37 y38 y39 y47 y48 y55 y63 z0 z12 z15 z16 z17, fX9_evening n (nI L) (X 0) (X 1) c (X 2) Y (X 3) (X 4) (X 21) (X 22) (X 23) (X 24) (X 25) (X 26) (X 27) (X 28) (X 29) (X 30) (X 31) (X 32) (X 33) (X 34) (X 35) (X 36) (X 37) (X 38) (X 39) (X 47) (X 48) (X 55) (X 63) = some (r, sw, y0, y1, c', Y', y3, y4, y21, y22, y23, y24, y25, y26, y27, y28, y29, y30, y31, y32, y33, y34, y35, y36, y37, y38, y39, y47, y48, y55, y63) ∧ fX10_evening n (nI L) (M 0) (M 1) (M 12) (M 15) (M 16) (M 17) = some (r, z0, z12, z15, z16, z17) ∧ INV n (swX sw (va_up (va_up (va_up (va_up (va_up (va_up (va_up (va_up (va_up (va_up (va_up (va_up (va_up (va_up (va_up (va_up (va_up (va_up (va_up (va_up (va_up (va_up (va_up (va_up (va_up (va_up (va_up X 0 y0) 1 y1) 3 y3) 4 y4) 21 y21) 22 y22) 23 y23) 24 y24) 25 y25) 26 y26) 27 y27) 28 y28) 29 y29) 30 y30) 31 y31) 32 y32) 33 y33) 34 y34) 35 y35) 36 y36) 37 y37) 38 y38) 39 y39) 47 y47) 48 y48) 55 y55) 63 y63)) Y' c' P (va_up (va_up (va_up (va_up (va_up M 0 z0) 12 z12) 15 z15) 16 z16) 17 z17) ∧ TBs (swX sw (va_up (va_up (va_up (va_up (va_up (va_up (va_up (va_up (va_up (va_up (va_up (va_up (va_up (va_up (va_up (va_up (va_up (va_up (va_up (va_up (va_up (va_up (va_up (va_up (va_up (va_up (va_up X 0 y0) 1 y1) 3 y3) 4 y4) 21 y21) 22 y22) 23 y23) 24 y24) 25 y25) 26 y26) 27 y27) 28 y28) 29 y29) 30 y30) 31 y31) 32 y32) 33 y33) 34 y34) 35 y35) 36 y36) 37 y37) 38 y38) 39 y39) 47 y47) 48 y48) 55 y55) 63 y63)) := fun omd v0 hd fd hr => by
      subst v0
      refine ⟨(-1), false, (upd (X 0) 4 4), (upd o' 1 0), c', Y', a13, a14, (H' 5), (H' 6), (H' 7), (H' 8), (H' 9), (H' 10), (H' 11), (H' 12), (H' 13), (H' 14), (H' 15), (H' 16), (H' 17), (H' 18), (H' 19), (H' 20), (X 37), (X 38), (X 39), (X 47), (X 48), (X 55), (X 63), (upd omd 11 4), lt', (M 15), fr', (M 17), ?_, hr, INV.read hI0 (fun k hk h1 => by
        simp only [core, List.mem_cons, List.not_mem_nil, or_false] at hk
        rcases hk with rfl | rfl | rfl | rfl | rfl | rfl | rfl | rfl | rfl | rfl | rfl | rfl | rfl | rfl | rfl | rfl | rfl | rfl | rfl | rfl | rfl | rfl | rfl | rfl | rfl | rfl | rfl | rfl | rfl <;> first | rfl | exact absurd rfl h1) rfl rfl rfl rfl rfl rfl ((fd 2 (by decide) (by decide) (by decide) (by decide) (by decide) (by decide) (by decide) (by decide)).trans rfl) hd.2.2.1 hd.2.2.2 ⟨rfl, rfl, rfl, rfl, rfl⟩ ⟨(fd 14 (by decide) (by decide) (by decide) (by decide) (by decide) (by decide) (by decide) (by decide)).trans rfl, (fd 20 (by decide) (by decide) (by decide) (by decide) (by decide) (by decide) (by decide) (by decide)).trans rfl, (fd 21 (by decide) (by decide) (by decide) (by decide) (by decide) (by decide) (by decide) (by decide)).trans rfl⟩, fun T' hT' h i hi => ?_⟩
      · rw [fX9_evening, if_neg (nI_pos (by omega)), t2, if_pos (nI_le k2 (by omega)), e1, ob22, if_pos i00, fX9_refuse, ob2_ss]
      · have : T' = 0 := (nI_inj (a := 0) (by omega) (by omega) h).symm
        omega
    rcases e5 with ⟨v1, f13, f6, f2, f9, G, D, T', N, S, hG1, hH⟩ | ⟨v0, hd⟩ | ⟨v0, f13, f6, hd⟩ | ⟨v0, f13, f6, f1, hd⟩
    · subst v1
      have hH' : RH true G D T' N S H' (va_cpy fr' (M 15) 0 0 266) := hH.fr (fun i hi => cpy_lo hi)
      have hX := hH'.hx hG1
      obtain ⟨o5, w5, l5, st5, s1, s2, s3⟩ := start_led (n := n) (om := om') (by omega) hX (X 37) (X 38) (X 39) (M 17)
      have g1 : ¬ fr' 1 = 0 := by
        obtain ⟨k, q1, q2, q3⟩ := (hH.2.1.1 rfl).2.2.2.2.1
        rw [q3]
        exact fun e => absurd (nI_inj (b := 0) (by omega) (by omega) e) (by omega)
      have h53 : H' 5 3 = nI G := hH.1.2.2.2.2.2.1
      have g3 : fr' 3 = nI G := hH.1.2.2.2.2.2.2.1
      have hG7 : G ≤ 7 := hH.1.1
      have g3' : ¬ fr' 3 = 0 := by rw [g3]; exact fun e => absurd (nI_inj (b := 0) (by omega) (by omega) e) (by omega)
      obtain ⟨nx, hnx, hx47⟩ : ∃ nx, nx < 16 ∧ X 47 1 = nI nx := by
        rcases i7 with ⟨-, -, G', D', T'', N', S', nx, u, v, -, -, -, -, q5, q6, -⟩ | ⟨-, -, q⟩
        · exact ⟨nx, q5, q6⟩
        · exact ⟨0, by omega, q.2.2.2.1⟩
      have rv : H' 5 3 = va_cpy fr' (M 15) 0 0 266 3 := by rw [cpy_lo (by omega), g3, h53]
      refine ⟨(H' 5 3), true, (upd (upd (upd (X 0) 3 1) 11 0) 4 0), (upd o' 1 0), c', Y', a13, a14, (H' 5), (H' 6), (H' 7), (H' 8), (H' 9), (H' 10), (H' 11), (H' 12), (H' 13), (H' 14), (H' 15), (H' 16), (H' 17), (H' 18), (H' 19), (H' 20), o5, w5, l5, (upd (X 47) 2 0), (upd (X 48) 0 0), (upd (X 55) 0 0), (upd (X 63) 0 0), (upd (upd (upd om' 14 1) 20 0) 21 0), lt', (va_cpy fr' (M 15) 0 0 266), fr', st5, ?_, ?_, ⟨((fm 11 (by decide) (by decide) (by decide) (by decide) (by decide) (by decide) (by decide) (by decide)).trans rfl).symm, ⟨0, by omega, rfl, (fm 2 (by decide) (by decide) (by decide) (by decide) (by decide) (by decide) (by decide) (by decide)).trans rfl, fun i hi => absurd hi (Nat.not_lt_zero i)⟩, f2.trans f9.symm, fun q => absurd (show (0 : Int32) = 4 from q) (by decide), i45, i46, Or.inl ⟨rfl, rfl, G, D, T', N, S, nx, 0, 0, hX, s3, ⟨⟨Or.inl rfl, fun q => absurd (show (0 : Int32) = 1 from q) (by decide)⟩, ⟨Or.inl rfl, fun q => absurd (show (0 : Int32) = 1 from q) (by decide)⟩, ⟨Or.inl rfl, fun q => absurd (show (0 : Int32) = 1 from q) (by decide)⟩⟩, by omega, hnx, hx47, rfl, rfl, fun k hk => absurd hk (Nat.not_lt_zero k), by omega, rfl, rfl, fun k hk => absurd hk (Nat.not_lt_zero k)⟩⟩, fun T' hT' h i hi => ?_⟩
      · rw [fX9_evening, if_neg (nI_pos (by omega)), t2, if_pos (nI_le k2 (by omega)), e1, ob22, if_neg i10, fX9_beginTold, s1, ob3_ss, fX4_forget, ob1_ss, fX9_forgetSearches, ob2_ss, ob8_ss]
      · rw [fX10_evening, goodS, ob1_ss, m2, k4', ob1_ss, if_neg i10, z2', e2, ob2_ss, e3, ob3_ss, e4, if_pos f13, if_pos f6]
        dsimp only [jn]
        rw [if_pos f13, if_neg g1, if_neg g3', if_pos f13, copy266 (by omega), ob1_ss, s2, ob1_ss, ← rv]
      · have : T' = 0 := (nI_inj (a := 0) (by omega) (by omega) h).symm
        omega
    · refine bad om' v0 hd fm ?_
      rw [fX10_evening, goodS, ob1_ss, m2, k4', ob1_ss, if_neg i10, z2', e2, ob2_ss, e3, ob3_ss, e4, if_neg hd.n]
      dsimp only [jn]
      rw [if_neg hd.n, if_neg hd.n, noS, ob2_ss]
    · refine bad _ v0 hd (fm.trans (fun k h1 h2 h3 h4 h5 h6 h7 h8 => by rw [upd_n _ _ h7, upd_n _ _ h6, upd_n _ _ h8])) ?_
      rw [fX10_evening, goodS, ob1_ss, m2, k4', ob1_ss, if_neg i10, z2', e2, ob2_ss, e3, ob3_ss, e4, if_pos f13, if_neg f6, wrong_l f13, ob1_ss]
      dsimp only [jn]
      rw [if_neg hd.n, if_neg hd.n, noS, ob2_ss]
    · refine bad _ v0 hd (fm.trans (fun k h1 h2 h3 h4 h5 h6 h7 h8 => by rw [upd_n _ _ h7, upd_n _ _ h6, upd_n _ _ h8])) ?_
      rw [fX10_evening, goodS, ob1_ss, m2, k4', ob1_ss, if_neg i10, z2', e2, ob2_ss, e3, ob3_ss, e4, if_pos f13, if_pos f6]
      dsimp only [jn]
      rw [if_pos f13]
      rcases f1 with z | ⟨z, z'⟩
      · rw [if_pos z, wrong_l f13, ob1_ss, if_neg hd.n, noS, ob2_ss]
      · rw [if_neg z, if_pos z', wrong_l f13, ob1_ss, if_neg hd.n, noS, ob2_ss]
  · have k4' : fX10_in n x1 0 (nI T) = some 0 := k4
    refine ⟨(-1), false, (upd (X 0) 4 2), (X 1), c, Y, (X 3), (X 4), (X 21), (X 22), (X 23), (X 24), (X 25), (X 26), (X 27), (X 28), (X 29), (X 30), (X 31), (X 32), (X 33), (X 34), (X 35), (X 36), (X 37), (X 38), (X 39), (X 47), (X 48), (X 55), (X 63), (upd (upd (upd (M 0) 0 0) 11 0) 11 2), (M 12), (M 15), (M 16), (M 17), ?_, ?_, INV.keep hI0 (fun k hk => by
      simp only [core, List.mem_cons, List.not_mem_nil, or_false] at hk
      rcases hk with rfl | rfl | rfl | rfl | rfl | rfl | rfl | rfl | rfl | rfl | rfl | rfl | rfl | rfl | rfl | rfl | rfl | rfl | rfl | rfl | rfl | rfl | rfl | rfl | rfl | rfl | rfl | rfl | rfl <;> rfl) rfl rfl rfl (fun q => absurd (show (2 : Int32) = 4 from q) (by decide)) rfl rfl ⟨rfl, rfl, rfl, rfl, rfl⟩ ⟨rfl, rfl, rfl, rfl, rfl, rfl⟩, hB⟩
    · by_cases q1 : x1 < 0
      · rw [fX9_evening, if_pos q1, fX9_refuse, ob2_ss]
      · by_cases q2 : x1 ≤ nI T
        · exfalso
          rw [fX10_in, if_neg q1, if_neg (Int32.not_lt.mpr q2)] at k4'
          exact absurd (Option.some.inj k4') (by decide)
        · rw [fX9_evening, if_neg q1, t2, if_neg q2, fX9_refuse, ob2_ss]
    · rw [fX10_evening, goodS, ob1_ss, m2, k4', ob1_ss, if_pos i00, noS, ob2_ss]
