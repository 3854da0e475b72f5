/-! feed leaves no byte -1 on the tape; led, class and reference together -/
theorem byt_ne (x : Int32) (i : Nat) : byt x i ≠ -1 := fun h => by
  unfold byt at h
  have h2 := congrArg (fun z => z &&& (256 : Int32)) h
  simp only [Int32.and_assoc] at h2
  rw [show ((255 : Int32) &&& 256) = 0 by decide, Int32.and_zero, show ((-1 : Int32) &&& 256) = 256 by decide] at h2
  exact absurd h2 (by decide)
theorem put_tb {n T : Nat} (hn : 10 ≤ n) (x : Int32) (hT : T + 4 ≤ 800) {o g : Nat → Int32} {c : Int64} (ho : o 1 = nI T) (hg : ∀ i, i < T → g i ≠ -1) : ∃ o' g', fX5_putNumber n x o c g = some (o', c, g') ∧ o' 1 = nI (T + 4) ∧ ∀ i, i < T + 4 → g' i ≠ -1 := by
  obtain ⟨o', g', e1, e2, -, e3⟩ := putS (n := n) (c := c) (g := g) hn x hT ho
  refine ⟨o', g', e1, e2, fun i hi => ?_⟩
  rw [e3 i]
  by_cases q : T ≤ i ∧ i < T + 4
  · rw [if_pos q]; exact byt_ne _ _
  · rw [if_neg q]; exact hg i (by omega)
theorem feed_tb {n : Nat} (hn : 100 ≤ n) {x1 x2 x3 x4 x5 r : Int32} {oo y1 y2 : Nat → Int32} {c c' : Int64} {X : Nat → Nat → Int32} {T : Nat} (t1 : T ≤ 800) (t2 : X 1 1 = nI T) (hB : TBs X) (h : fX9_feed n x1 x2 x3 x4 x5 oo (X 1) c (X 2) = some (r, y1, c', y2)) : TBs (va_up (va_up X 1 y1) 2 y2) := by
  have g0 := hB T t1 t2
  have l20 : (20 : Int32) = nI 20 := rfl
  have l800 : (800 : Int32) = nI 800 := rfl
  rw [fX9_feed, t2, l20, l800, addI] at h
  by_cases hT : T + 20 ≤ 800
  · rw [if_pos (nI_le hT (by omega))] at h
    obtain ⟨o1, f1, a1, a2, a3⟩ := put_tb (n := n) (c := c) (by omega) x1 (by omega) t2 g0
    obtain ⟨o2, f2, b1, b2, b3⟩ := put_tb (n := n) (c := c) (by omega) x2 (by omega) a2 a3
    obtain ⟨o3, f3, c1, c2, c3⟩ := put_tb (n := n) (c := c) (by omega) x3 (by omega) b2 b3
    obtain ⟨o4, f4, d1, d2, d3⟩ := put_tb (n := n) (c := c) (by omega) x4 (by omega) c2 c3
    obtain ⟨o5, f5, e1, e2, e3⟩ := put_tb (n := n) (c := c) (by omega) x5 (by omega) d2 d3
    rw [a1, ob3_ss, b1, ob3_ss, c1, ob3_ss, d1, ob3_ss, e1, ob3_ss] at h
    cases h
    intro T' hT' hx i hi
    have e : T' = T + 4 + 4 + 4 + 4 + 4 := nI_inj (by omega) (by omega) ((show y1 1 = nI T' from hx).symm.trans e2)
    exact e3 i (by omega)
  · rw [if_neg (nI_ge (by omega) (by omega))] at h
    cases h
    exact hB
/-- led by the class: thrown or not, and the answer -/
def fX9_led_L4 (n : Nat) (x1 : Int32) (h5 o37 : Nat → Int32) : Nat → Int32 → Int32 → Option (Int32 × Int32)
  | 0, _, _ => none
  | k + 1, a, t => if h5 13 ≤ t then some (1, 0) else ob1 (fX2_wasTold n t o37) (fun u => if u = 0 then fX9_led_L4 n x1 h5 o37 k a (t + 1) else if a = x1 then some (0, t) else fX9_led_L4 n x1 h5 o37 k (a + 1) (t + 1))
def fX9_led (n : Nat) (x1 : Int32) (h5 o37 : Nat → Int32) : Option (Int32 × Int32) := fX9_led_L4 n x1 h5 o37 n 0 0
theorem led_loop {n T : Nat} (hT : T ≤ 4) (x1 : Int32) {h5 o37 om r st : Nat → Int32} (h13 : h5 13 = nI T) (r6 : r 6 = nI T) (o3 : o37 3 = st 16) (h14 : om 14 = 1) : ∀ (j k f1 f2 : Nat) (a : Int32), k + j = T → j < f1 → j < f2 →
    ∃ th v, fX9_led_L4 n x1 h5 o37 f1 a (nI k) = some (th, v) ∧ fX10_led_L4 n x1 om r st (fun _ => some (0, upd om 0 1)) f2 a (nI k) = some (v, upd om 0 th) ∧ (th = 0 ∨ th = 1) := by
  intro j
  induction j with
  | zero =>
    intro k f1 f2 a hk h1 h2
    obtain ⟨u1, rfl⟩ : ∃ u, f1 = u + 1 := ⟨f1 - 1, by omega⟩
    obtain ⟨u2, rfl⟩ : ∃ u, f2 = u + 1 := ⟨f2 - 1, by omega⟩
    exact ⟨1, 0, by rw [fX9_led_L4, h13, if_pos (nI_le (by omega) (by omega))], by rw [fX10_led_L4, h14, if_neg i10, r6, if_pos (nI_le (by omega) (by omega))], Or.inr rfl⟩
  | succ j ih =>
    intro k f1 f2 a hk h1 h2
    obtain ⟨u1, rfl⟩ : ∃ u, f1 = u + 1 := ⟨f1 - 1, by omega⟩
    obtain ⟨u2, rfl⟩ : ∃ u, f2 = u + 1 := ⟨f2 - 1, by omega⟩
    rw [fX9_led_L4, h13, if_neg (nI_ge (by omega) (by omega)), wasToldS n o37 (by omega), ob1_ss, o3, sI, fX10_led_L4, h14, if_neg i10, r6, if_neg (nI_ge (by omega) (by omega)), hasBitS n (st 16) (by omega), ob1_ss, sI]
    by_cases hb : bt (st 16) k = true
    · rw [if_pos hb, if_neg i10, if_neg i10]
      by_cases e : a = x1
      · rw [if_pos e, if_pos e]
        exact ⟨0, nI k, rfl, rfl, Or.inl rfl⟩
      · rw [if_neg e, if_neg e]
        exact ih (k + 1) u1 u2 (a + 1) (by omega) (by omega) (by omega)
    · rw [if_neg hb, if_pos i00, if_pos i00]
      exact ih (k + 1) u1 u2 a (by omega) (by omega) (by omega)
theorem ok_led {n : Nat} (hn : 2000 ≤ n) {X : Nat → Nat → Int32} {Y : Nat → Int64} {c : Int64} {P : Nat → Nat → Nat → Int32} {M : Nat → Nat → Int32} (hI : INV n X Y c P M) (x1 : Int32) : ∃ th v z0, fX9_led n x1 (X 5) (X 37) = some (th, v) ∧ fX10_led n x1 (M 0) (M 15) (M 17) = some (v, z0) ∧ z0 0 = th ∧ (th = 0 ∨ th = 1) ∧ INV n X Y c P (va_up M 0 z0) := by
  have keep : ∀ th : Int32, INV n X Y c P (va_up M 0 (upd (M 0) 0 th)) := fun th => hI.keep (fun _ _ => rfl) rfl rfl hI.1 (fun q => q) rfl rfl ⟨rfl, rfl, rfl, rfl, rfl⟩ ⟨rfl, rfl, rfl, rfl, rfl, rfl⟩
  obtain ⟨-, -, -, -, -, -, ⟨-, b2, G, D, T, N, S, nx, u, v, hX, hL, -⟩ | ⟨-, b2, f5, -⟩⟩ := id hI
  · have hT : T ≤ 4 := hX.2.2.1
    have h13 : X 5 13 = nI T := hX.2.2.2.2.2.2.2.2.2.1
    have r6 : M 15 6 = nI T := hX.2.2.2.2.2.2.2.2.2.2.1
    obtain ⟨th, v, e1, e2, e3⟩ := led_loop (n := n) hT x1 h13 r6 hL.2.2.1 b2 T 0 n n 0 (by omega) (by omega) (by omega)
    exact ⟨th, v, _, e1, e2, upd_s _ _ _, e3, keep th⟩
  · obtain ⟨u, rfl⟩ : ∃ u, n = u + 1 := ⟨n - 1, by omega⟩
    refine ⟨1, 0, _, ?_, ?_, upd_s _ _ _, Or.inr rfl, keep 1⟩
    · rw [fX9_led, fX9_led_L4, f5 13, if_pos (Int32.le_refl _)]
    · rw [fX10_led, fX10_led_L4, b2, if_pos i00]
