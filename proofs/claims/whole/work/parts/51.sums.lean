/-! sums of Int32 -/
def sm (f : Nat → Int32) : Nat → Int32
  | 0 => 0
  | n + 1 => sm f n + f n
theorem sm_congr {f g : Nat → Int32} : ∀ {n : Nat}, (∀ k, k < n → f k = g k) → sm f n = sm g n
  | 0, _ => rfl
  | n + 1, h => by rw [sm, sm, sm_congr (fun k hk => h k (Nat.lt_succ_of_lt hk)), h n (Nat.lt_succ_self n)]
theorem sm_zero : ∀ n : Nat, sm (fun _ => 0) n = 0
  | 0 => rfl
  | n + 1 => by rw [sm, sm_zero n, Int32.add_zero]
theorem i4 (a b c d : Int32) : (a + b) + (c + d) = (a + c) + (b + d) := by
  rw [Int32.add_assoc, Int32.add_assoc, ← Int32.add_assoc b c d, Int32.add_comm b c, Int32.add_assoc c b d]
theorem sm_add (f g : Nat → Int32) : ∀ n : Nat, sm (fun k => f k + g k) n = sm f n + sm g n
  | 0 => by rw [sm, sm, sm, Int32.add_zero]
  | n + 1 => by rw [sm, sm, sm, sm_add f g n, i4]
theorem sm_comm (F : Nat → Nat → Int32) (D : Nat) : ∀ G : Nat, sm (fun k => sm (fun d => F k d) D) G = sm (fun d => sm (fun k => F k d) G) D
  | 0 => by rw [sm]; exact (sm_zero D).symm
  | G + 1 => by
    rw [sm, sm_comm F D G, ← sm_add]
    exact sm_congr (fun d _ => by rw [sm])
theorem sm_single {f : Nat → Int32} {j : Nat} : ∀ {n : Nat}, j < n → (∀ k, k < n → k ≠ j → f k = 0) → sm f n = f j
  | 0, h, _ => absurd h (Nat.not_lt_zero _)
  | n + 1, h, hz => by
    rw [sm]
    rcases Nat.lt_or_ge j n with q | q
    · rw [sm_single q (fun k hk hn => hz k (by omega) hn), hz n (by omega) (by omega), Int32.add_zero]
    · have e : j = n := by omega
      subst e
      rw [sm_congr (g := fun _ => 0) (fun k hk => hz k (by omega) (by omega)), sm_zero, Int32.zero_add]
theorem sm_none {f : Nat → Int32} {n : Nat} (h : ∀ k, k < n → f k = 0) : sm f n = 0 := by rw [sm_congr (g := fun _ => 0) h, sm_zero]
theorem nI_inj {a b : Nat} (ha : a < 2 ^ 31) (hb : b < 2 ^ 31) (h : nI a = nI b) : a = b := (nI_eq ha hb).mp h
/-! the house, as both hold it -/
def HR (G D : Nat) (ho kind sinks mate dg dr dm r : Nat → Int32) : Prop :=
  G ≤ 7 ∧ ho 3 = nI G ∧ r 3 = nI G ∧ ho 2 = r 2 ∧ (∀ g, g < G → kind g = r (9 + 4 * g)) ∧ (∀ g, g < G → sinks g = r (9 + 4 * g + 2)) ∧
  (∀ g, g < G → (mate g = -2 ∧ r (9 + 4 * g + 3) = 0) ∨ ∃ j, j < G ∧ mate g = nI j ∧ r (9 + 4 * g + 3) = nI (j + 1)) ∧
  D ≤ 8 ∧ ho 9 = nI D ∧ (∀ d, d < D → ∃ a b, a < G ∧ b < G ∧ a ≠ b ∧ dg d = nI a ∧ dr d = nI b) ∧
  (∀ a, a < G → ∀ b, b < G → a ≠ b → r (37 + 7 * a + b) = sm (fun d => if dg d = nI a ∧ dr d = nI b then dm d else 0) D)
/-- the night, as both hold it -/
def NR (G : Nat) (o w la st : Nat → Int32) : Prop :=
  o 0 = st 14 ∧ o 2 = st 15 ∧ True ∧ (∀ g, g < G → w g = st g) ∧ (∀ g, g < G → (bt (o 1) g = true ↔ st (7 + g) = 0)) ∧
  (∀ g, g < G → bt (o 1) g = false → st (7 + g) = la g + 1) ∧ (∀ g, g < G → bt (o 1) g = true → la g = -2) ∧ (∀ i, G ≤ i → i < 32 → bt (o 1) i = false)
/-- who is there, by the reference -/
theorem thereOf_loop {n G : Nat} (hG : G ≤ 7) {o r st : Nat → Int32} (hr : r 3 = nI G) (K : Int32 → Option Int32) (T : Int32) (hT : ∀ g, g < G → (bt T g = true ↔ st (7 + g) = 0)) (hT2 : ∀ i, G ≤ i → i < 32 → bt T i = false) :
    ∀ (j k fuel : Nat) (x : Int32), k + j = G → j < fuel → (∀ i, i < 32 → bt x i = (decide (i < k) && bt T i)) → fX10_thereOf_L4 n o r st K fuel x (nI k) = K T := by
  intro j
  induction j with
  | zero =>
    intro k fuel x hk hf hx
    obtain ⟨f, rfl⟩ : ∃ f, fuel = f + 1 := ⟨fuel - 1, by omega⟩
    rw [fX10_thereOf_L4, hr, if_pos (nI_le (by omega) (by omega))]
    have e : x = T := by
      refine b_ext (fun i hi => ?_)
      rw [hx i hi]
      by_cases h : i < k
      · simp [h]
      · rw [hT2 i (by omega) hi]; simp
    rw [e]
  | succ j ih =>
    intro k fuel x hk hf hx
    obtain ⟨f, rfl⟩ : ∃ f, fuel = f + 1 := ⟨fuel - 1, by omega⟩
    rw [fX10_thereOf_L4, hr, if_neg (nI_ge (by omega) (by omega)), isInS n st (by omega), ob1_ss, sI]
    by_cases h : st (7 + k) = 0
    · rw [if_pos h, if_neg (by decide)]
      refine ih (k + 1) f _ (by omega) (by omega) (fun i hi => ?_)
      rw [b_or, hx i hi, b_one k (by omega) i hi]
      by_cases e : i = k
      · subst e; rw [(hT i (by omega)).mpr h]; simp
      · by_cases h2 : i < k
        · simp [h2, e, show i < k + 1 by omega]
        · simp [h2, e, show ¬ i < k + 1 by omega]
    · rw [if_neg h, if_pos rfl]
      refine ih (k + 1) f _ (by omega) (by omega) (fun i hi => ?_)
      rw [b_or, hx i hi, b_0, Bool.or_false]
      by_cases e : i = k
      · subst e
        have hb : bt T i = false := by
          cases hq : bt T i with
          | false => rfl
          | true => exact absurd ((hT i (by omega)).mp hq) h
        rw [hb]; simp
      · by_cases h2 : i < k
        · simp [h2, show i < k + 1 by omega]
        · simp [h2, show ¬ i < k + 1 by omega]
theorem thereOfS {n G : Nat} (hn : 8 ≤ n) (hG : G ≤ 7) {o r st : Nat → Int32} (hr : r 3 = nI G) {T : Int32} (hT : ∀ g, g < G → (bt T g = true ↔ st (7 + g) = 0)) (hT2 : ∀ i, G ≤ i → i < 32 → bt T i = false) : fX10_thereOf n o r st = some T := by
  rw [fX10_thereOf, lz0]
  exact thereOf_loop hG hr _ T hT hT2 G 0 n _ (by omega) (by omega) (fun i _ => by rw [show nI 0 = (0 : Int32) from rfl, b_0]; simp)
/-- the wills by the lines -/
theorem weigh_L2S {n G : Nat} (hG : G ≤ 7) {o want ho : Nat → Int32} (hg : ho 3 = nI G) (K : (Nat → Int32) → Option (Nat → Int32)) :
    ∀ (j k fuel : Nat) (w : Nat → Int32), k + j = G → j < fuel → (∀ g, g < k → w g = want g) → ∃ w', (∀ g, g < G → w' g = want g) ∧ fX2_weigh_L2 n o want ho K fuel (nI k) w = K w' := by
  intro j
  induction j with
  | zero =>
    intro k fuel w hk hf hw
    obtain ⟨f, rfl⟩ : ∃ f, fuel = f + 1 := ⟨fuel - 1, by omega⟩
    refine ⟨w, fun g h => hw g (by omega), ?_⟩
    rw [fX2_weigh_L2, hg, if_pos (nI_le (by omega) (by omega))]
  | succ j ih =>
    intro k fuel w hk hf hw
    obtain ⟨f, rfl⟩ : ∃ f, fuel = f + 1 := ⟨fuel - 1, by omega⟩
    rw [fX2_weigh_L2, hg, if_neg (nI_ge (by omega) (by omega)), if_neg (ckI (by omega) (by omega)), if_neg (ckI (by omega) (by omega)), clI (by omega), sI]
    refine ih (k + 1) f _ (by omega) (by omega) (fun g h => ?_)
    by_cases e : g = k
    · subst e; rw [upd_s]
    · rw [upd_n _ _ e]; exact hw g (by omega)
theorem weigh_L30S {n G D : Nat} (hG : G ≤ 7) (hD : D ≤ 8) {o ho dg dr dm want : Nat → Int32} (hg : ho 3 = nI G) (hd : ho 9 = nI D) (hl : ∀ d, d < D → ∃ a b, a < G ∧ b < G ∧ a ≠ b ∧ dg d = nI a ∧ dr d = nI b) (K : (Nat → Int32) → Option (Nat → Int32)) :
    ∀ (j k fuel : Nat) (w : Nat → Int32), k + j = D → j < fuel → (∀ g, g < G → w g = want g + sm (fun d => if dg d = nI g ∧ ((o 1 >>> (dr d &&& 31)) &&& (1 : Int32)) = 1 then dm d else 0) k) →
      ∃ w', (∀ g, g < G → w' g = want g + sm (fun d => if dg d = nI g ∧ ((o 1 >>> (dr d &&& 31)) &&& (1 : Int32)) = 1 then dm d else 0) D) ∧ fX2_weigh_L30 n o ho dg dr dm K fuel (nI k) w = K w' := by
  intro j
  induction j with
  | zero =>
    intro k fuel w hk hf hw
    obtain ⟨f, rfl⟩ : ∃ f, fuel = f + 1 := ⟨fuel - 1, by omega⟩
    refine ⟨w, fun g h => by rw [hw g h, show k = D by omega], ?_⟩
    rw [fX2_weigh_L30, hd, if_pos (nI_le (by omega) (by omega))]
  | succ j ih =>
    intro k fuel w hk hf hw
    obtain ⟨f, rfl⟩ : ∃ f, fuel = f + 1 := ⟨fuel - 1, by omega⟩
    obtain ⟨a, b, ha, hb, hab, ea, eb⟩ := hl k (by omega)
    rw [fX2_weigh_L30, hd, if_neg (nI_ge (by omega) (by omega)), if_neg (ckI (by omega) (by omega)), clI (by omega), sI, ea, if_neg (nI_pos (by omega)), hg, if_neg (nI_ge (by omega) (by omega)), if_neg (ckK (by omega) (by omega))]
    by_cases hc : ((o 1 >>> (dr k &&& 31)) &&& (1 : Int32)) = 1
    · rw [if_pos hc, if_neg (ckI (by omega) (by omega)), if_neg (ckK (by omega) (by omega)), if_neg (ckI (by omega) (by omega)), clI (by omega)]
      refine ih (k + 1) f _ (by omega) (by omega) (fun g h => ?_)
      rw [sm]
      by_cases e : g = a
      · subst e
        rw [upd_s, hw g h, if_pos ⟨ea, hc⟩, Int32.add_assoc]
      · rw [upd_n _ _ e, hw g h, if_neg (fun q => e ((nI_inj (by omega) (by omega) (ea.symm.trans q.1)).symm)), Int32.add_zero]
    · rw [if_neg hc]
      refine ih (k + 1) f _ (by omega) (by omega) (fun g h => ?_)
      rw [sm, if_neg (fun q => hc q.2), Int32.add_zero]
      exact hw g h
