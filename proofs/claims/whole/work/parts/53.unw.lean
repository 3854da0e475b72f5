/-! who is unwilling, by both: the same bits -/
theorem acc_t {x : Int32} {k : Nat} {P : Nat → Bool} (hx : ∀ i, i < 32 → bt x i = (decide (i < k) && P i)) (hk : k < 31) (h : P k = true) : ∀ i, i < 32 → bt (x ||| ((1 : Int32) <<< (nI k &&& 31))) i = (decide (i < k + 1) && P i) := by
  intro i hi
  rw [b_or, hx i hi, b_one k hk i hi]
  by_cases e : i = k
  · subst e; rw [h]; simp
  · by_cases h2 : i < k
    · simp [h2, e, show i < k + 1 by omega]
    · simp [h2, e, show ¬ i < k + 1 by omega]
theorem acc_f {x : Int32} {k : Nat} {P : Nat → Bool} (hx : ∀ i, i < 32 → bt x i = (decide (i < k) && P i)) (h : P k = false) : ∀ i, i < 32 → bt x i = (decide (i < k + 1) && P i) := by
  intro i hi
  rw [hx i hi]
  by_cases e : i = k
  · subst e; rw [h]; simp
  · by_cases h2 : i < k
    · simp [h2, show i < k + 1 by omega]
    · simp [h2, show ¬ i < k + 1 by omega]
theorem or0 (x : Int32) : x ||| 0 = x := b_ext (fun i _ => by rw [b_or, b_0, Bool.or_false])
def uP (o will kind : Nat → Int32) (al : Bool) (i : Nat) : Bool := bt (o 1) i && decide (will i ≤ 0) && !(al && decide (kind i = 1))
theorem unw_loop {n G : Nat} (hG : G ≤ 7) {o will ho kind : Nat → Int32} (hg : ho 3 = nI G) (al : Bool) (x2 : Int32) (hx2 : x2 = if al = true then 1 else 0) (K : Int32 → Option Int32) :
    ∀ (j k fuel : Nat) (x : Int32), k + j = G → j < fuel → (∀ i, i < 32 → bt x i = (decide (i < k) && uP o will kind al i)) →
      ∃ X, (∀ i, i < 32 → bt X i = (decide (i < G) && uP o will kind al i)) ∧ fX2_unwilling_L26 n x2 o will ho kind K fuel x (nI k) = K X := by
  intro j
  induction j with
  | zero =>
    intro k fuel x hk hf hx
    obtain ⟨f, rfl⟩ : ∃ f, fuel = f + 1 := ⟨fuel - 1, by omega⟩
    have e : k = G := by omega
    subst e
    exact ⟨x, hx, by rw [fX2_unwilling_L26, hg, if_pos (nI_le (by omega) (by omega))]⟩
  | succ j ih =>
    intro k fuel x hk hf hx
    obtain ⟨f, rfl⟩ : ∃ f, fuel = f + 1 := ⟨fuel - 1, by omega⟩
    rw [fX2_unwilling_L26, hg, if_neg (nI_ge (by omega) (by omega))]
    dsimp only [jn]
    have key : ∀ (w : Bool) (s : Int32), (al && decide (kind k = 1)) = w → s = (if w = true then 1 else 0) →
        ∃ X, (∀ i, i < 32 → bt X i = (decide (i < G) && uP o will kind al i)) ∧
        (if ((o 1 >>> (nI k &&& 31)) &&& (1 : Int32)) = (1 : Int32) then if nI k < 0 ∨ 7 ≤ (nI k).toNatClampNeg then none else if 0 < will (nI k).toNatClampNeg then fX2_unwilling_L26 n x2 o will ho kind K f x (nI k + (1 : Int32)) else if s = 0 then fX2_unwilling_L26 n x2 o will ho kind K f (x ||| ((1 : Int32) <<< (nI k &&& 31))) (nI k + (1 : Int32)) else fX2_unwilling_L26 n x2 o will ho kind K f x (nI k + (1 : Int32)) else fX2_unwilling_L26 n x2 o will ho kind K f x (nI k + (1 : Int32))) = K X := by
      intro w s hw hs
      rw [sI, if_neg (ckI (by omega) (by omega)), clI (by omega)]
      by_cases hb : bt (o 1) k = true
      · rw [if_pos ((bit_is _ (by omega)).mpr hb)]
        by_cases hc : 0 < will k
        · rw [if_pos hc]
          refine ih (k + 1) f x (by omega) (by omega) (acc_f hx ?_)
          have : ¬ will k ≤ 0 := Int32.not_le.mpr hc
          simp [uP, this]
        · rw [if_neg hc]
          have hc2 : will k ≤ 0 := Int32.not_lt.mp hc
          cases w with
          | true =>
            rw [if_pos rfl] at hs
            rw [hs, if_neg (by decide)]
            refine ih (k + 1) f x (by omega) (by omega) (acc_f hx ?_)
            rw [uP, hw]; simp
          | false =>
            rw [if_neg (by decide)] at hs
            rw [hs, if_pos rfl]
            refine ih (k + 1) f _ (by omega) (by omega) (acc_t hx (by omega) ?_)
            rw [uP, hw, hb]; simp [hc2]
      · rw [if_neg (fun q => hb ((bit_is _ (by omega)).mp q))]
        refine ih (k + 1) f x (by omega) (by omega) (acc_f hx ?_)
        have : bt (o 1) k = false := by cases h : bt (o 1) k <;> simp_all
        rw [uP, this]; simp
    cases al with
    | false =>
      rw [if_neg (by decide)] at hx2
      rw [if_pos hx2]
      exact key false 0 rfl rfl
    | true =>
      rw [if_pos rfl] at hx2
      rw [if_neg (by rw [hx2]; decide), if_neg (ckI (by omega) (by omega))]
      by_cases hk1 : kind (nI k).toNatClampNeg = 1
      · rw [if_pos hk1]
        exact key true 1 (by rw [clI (by omega)] at hk1; simp [hk1]) rfl
      · rw [if_neg hk1]
        exact key false 0 (by rw [clI (by omega)] at hk1; simp [hk1]) rfl
/-- by the reference -/
def mP (st W r : Nat → Int32) (any : Bool) (i : Nat) : Bool := decide (st (7 + i) = 0) && decide (W i ≤ 0) && (any || !decide (r (9 + 4 * i) = 1))
theorem lvs_loop {n G : Nat} (hn : 8 ≤ n) (hG : G ≤ 7) {o r st : Nat → Int32} (hr : r 3 = nI G) (any : Bool) (x4 : Int32) (hx4 : x4 = if any = true then 1 else 0) (x2 : Int32) (K : Int32 → Option (Int32 × (Nat → Int32) × (Nat → Int32))) (W : Nat → Int32) (hW : ∀ a, a < G → W a = st a + sm (fun b => if b ≠ a ∧ st (7 + b) = 0 then r (37 + 7 * a + b) else 0) G) :
    ∀ (j k fuel : Nat) (x : Int32), k + j = G → j < fuel → (∀ i, i < 32 → bt x i = (decide (i < k) && mP st W r any i)) →
      ∃ X, (∀ i, i < 32 → bt X i = (decide (i < G) && mP st W r any i)) ∧ fX10_leaves_L44 n x2 x4 o r st K fuel x (nI k) = K X := by
  intro j
  induction j with
  | zero =>
    intro k fuel x hk hf hx
    obtain ⟨f, rfl⟩ : ∃ f, fuel = f + 1 := ⟨fuel - 1, by omega⟩
    have e : k = G := by omega
    subst e
    exact ⟨x, hx, by rw [fX10_leaves_L44, hr, if_pos (nI_le (by omega) (by omega))]⟩
  | succ j ih =>
    intro k fuel x hk hf hx
    obtain ⟨f, rfl⟩ : ∃ f, fuel = f + 1 := ⟨fuel - 1, by omega⟩
    rw [fX10_leaves_L44, hr, if_neg (nI_ge (by omega) (by omega)), isInS n st (by omega), ob1_ss, sI, or0, willOfS hn hG (by omega) hr, ob1_ss, ← hW k (by omega), kindOfS n o r (by omega), ob1_ss]
    by_cases h : st (7 + k) = 0
    · rw [if_pos h, if_neg (by decide)]
      by_cases hc : 0 < W k
      · rw [if_pos hc]
        have : ¬ W k ≤ 0 := Int32.not_le.mpr hc
        exact ih (k + 1) f x (by omega) (by omega) (acc_f hx (by simp [mP, this]))
      · rw [if_neg hc]
        have hc2 : W k ≤ 0 := Int32.not_lt.mp hc
        cases any with
        | true =>
          rw [if_pos rfl] at hx4
          rw [if_neg (by rw [hx4]; decide)]
          exact ih (k + 1) f _ (by omega) (by omega) (acc_t hx (by omega) (by simp [mP, h, hc2]))
        | false =>
          rw [if_neg (by decide)] at hx4
          rw [if_pos hx4]
          by_cases hk1 : r (9 + 4 * k) = 1
          · rw [if_pos hk1]
            exact ih (k + 1) f x (by omega) (by omega) (acc_f hx (by simp [mP, hk1]))
          · rw [if_neg hk1]
            exact ih (k + 1) f _ (by omega) (by omega) (acc_t hx (by omega) (by simp [mP, h, hc2, hk1]))
    · rw [if_neg h, if_pos rfl]
      exact ih (k + 1) f x (by omega) (by omega) (acc_f hx (by simp [mP, h]))
