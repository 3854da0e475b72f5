/-! by how much wants fall when some go -/
theorem sub_small {x : Int32} {q : Nat} (hq : q ≤ 100000) (h : -1000000000 ≤ x.toInt) : (x - nI q).toInt = x.toInt - (q : Int) := by
  have e : (nI q).toInt = (q : Int) := nI_toInt (by omega)
  have hx : x.toInt < 2 ^ 31 := Int32.toInt_lt x
  rw [Int32.toInt_sub, e]
  exact Int.bmod_eq_of_le (by omega) (by omega)
theorem add_small {x : Int32} {q : Nat} (hq : q ≤ 100000) (h : x.toInt ≤ 1000000000) : (x + nI q).toInt = x.toInt + (q : Int) := by
  have e : (nI q).toInt = (q : Int) := nI_toInt (by omega)
  have hx : -2 ^ 31 ≤ x.toInt := Int32.le_toInt x
  rw [Int32.toInt_add, e]
  exact Int.bmod_eq_of_le (by omega) (by omega)
theorem rel_low {n G D : Nat} {who : Int32} {o2 ho kind sinks mate dg dr dm r oo : Nat → Int32} (hH : HR G D ho kind sinks mate dg dr dm r) {q : Nat} (hq : q ≤ 40) (hgr : ho 2 = nI q) {B : Int} (hB : B ≤ 2000000) :
    ∀ (j k f : Nat) (w la : Nat → Int32) (res : (Nat → Int32) × (Nat → Int32) × (Nat → Int32)), k + j = G → fX2_release_L14 n who o2 ho mate (fun w1 l1 => some (oo, w1, l1)) f (nI k) w la = some res → (∀ g, g < G → bt (o2 1) g = true → -(B + 40 * (k : Int)) ≤ (w g).toInt) →
      ∀ g, g < G → bt (o2 1) g = true → (res.2.1 g).toInt ≤ (w g).toInt ∧ -(B + 40 * (G : Int)) ≤ (res.2.1 g).toInt := by
  obtain ⟨hG, h3, -, -, -, -, hm, -, -, -, -⟩ := hH
  intro j
  induction j with
  | zero =>
    intro k f w la res hk h hw g hg hb
    cases f with
    | zero => exact absurd h (by simp [fX2_release_L14])
    | succ f =>
      rw [fX2_release_L14, h3, if_pos (nI_le (by omega) (by omega))] at h
      have e := Option.some.inj h
      subst e
      have := hw g hg hb
      have e : k = G := by omega
      subst e
      exact ⟨Int.le_refl _, this⟩
  | succ j ih =>
    intro k f w la res hk h hw g hg hb
    cases f with
    | zero => exact absurd h (by simp [fX2_release_L14])
    | succ f =>
      have hw' : ∀ g, g < G → bt (o2 1) g = true → -(B + 40 * ((k + 1 : Nat) : Int)) ≤ (w g).toInt := fun g hg hb => by
        have := hw g hg hb
        omega
      rw [fX2_release_L14, h3, if_neg (nI_ge (by omega) (by omega)), sI] at h
      by_cases hw1 : ((who >>> (nI k &&& 31)) &&& (1 : Int32)) = 1
      · rw [if_pos hw1, if_neg (ckI (k := k) (N := 7) (by omega) (by omega)), if_neg (ckI (k := k) (N := 7) (by omega) (by omega)), clI (k := k) (by omega)] at h
        rcases hm k (by omega) with ⟨e1, -⟩ | ⟨i, hi, e1, -⟩
        · rw [e1, if_pos (show (-2 : Int32) < 0 by decide)] at h
          exact ih (k + 1) f w _ res (by omega) h hw' g hg hb
        · rw [e1, if_neg (nI_pos (n := i) (by omega)), if_neg (nI_ge (a := i) (b := G) (by omega) (by omega)), if_neg (ckI (k := i) (N := 7) (by omega) (by omega)), if_neg (ckI (k := i) (N := 7) (by omega) (by omega)), clI (k := i) (by omega)] at h
          by_cases hc : ((o2 1 >>> (nI i &&& 31)) &&& (1 : Int32)) = 1
          · rw [if_pos hc, hgr] at h
            have hbi := (bit_is _ (by omega)).mp hc
            have hwi := hw i hi hbi
            have es : (w i - nI q).toInt = (w i).toInt - (q : Int) := sub_small (by omega) (by omega)
            have := ih (k + 1) f _ _ res (by omega) h (fun g hg hb => by
              by_cases e : g = i
              · subst e; rw [upd_s, es]; omega
              · rw [upd_n _ _ e]; exact hw' g hg hb) g hg hb
            refine ⟨?_, this.2⟩
            by_cases e : g = i
            · subst e
              have t := this.1
              rw [upd_s, es] at t
              omega
            · have t := this.1
              rw [upd_n _ _ e] at t
              exact t
          · rw [if_neg hc] at h
            exact ih (k + 1) f w _ res (by omega) h hw' g hg hb
      · rw [if_neg hw1] at h
        exact ih (k + 1) f w _ res (by omega) h hw' g hg hb
