/-! what the class's searches remember, said by what the reference finds anew (n: the fuel, one for all) -/
/-- the rows of tales -/
def TC (n : Nat) (o f r st : Nat → Int32) : Prop := (o 0 = 0 ∨ o 0 = 1) ∧ (o 0 = 1 → ∀ om tr ta be : Nat → Int32, ∃ S om' tr' ta' be', fX10_seekTales n om r st tr ta be = some (S, om', tr', ta', be') ∧ (∀ k, k ≠ 22 → k ≠ 24 → k ≠ 28 → k ≠ 29 → om' k = om k) ∧
  ((S = 0 ∧ o 1 = 61) ∨ (S = 1 ∧ ∃ e l : Nat, e ≤ 60 ∧ l ≤ 4 ∧ o 1 = nI e ∧ om' 29 = nI e ∧ o 2 = nI l ∧ om' 28 = nI l ∧ ∀ i, i < l → be' i = f i)))
/-- the shares of cups -/
def SC (n : Nat) (o f hb r st : Nat → Int32) : Prop := (o 0 = 0 ∨ o 0 = 1) ∧ (o 0 = 1 →
  (∀ om tr cu be : Nat → Int32, ∃ S om' tr' cu' be', fX10_seekCups n om r st tr cu be = some (S, om', tr', cu', be') ∧ (∀ k, k ≠ 22 → k ≠ 24 → k ≠ 32 → om' k = om k) ∧
    ((S = 0 ∧ o 1 = 61) ∨ (S = 1 ∧ ∃ e : Nat, e ≤ 60 ∧ o 1 = nI e ∧ om' 32 = nI e ∧ ∀ g : Nat, nI g < r 3 → g < 7 → be' g = f g))) ∧
  ∀ h : Nat, h ≤ 60 → ∀ om tr cu be : Nat → Int32, ∃ A om' tr' cu' be', fX10_cupsFor_L35 n (nI h) r st (fun o a b c => some ((-2 : Int32), o, a, b, c)) n 0 om tr cu be = some (A, om', tr', cu', be') ∧ (∀ k, k ≠ 22 → k ≠ 24 → k ≠ 32 → om' k = om k) ∧
    ((∃ k : Nat, k ≤ 4 ∧ A = nI k ∧ ¬ hb k < nI h ∧ ∀ j, j < k → hb j < nI h) ∨ (A = -2 ∧ ∀ j, j ≤ 4 → hb j < nI h)))
/-- the ways unseen -/
def UC (n : Nat) (o f r : Nat → Int32) : Prop := (o 0 = 0 ∨ o 0 = 1) ∧ (o 0 = 1 →
  (∃ w : Nat, w ≤ 218 ∧ o 1 = nI w ∧ ∀ om tr wc : Nat → Int32, ∃ om' tr' wc', fX10_seekWays n om r tr wc = some (nI w, om', tr', wc') ∧ (∀ k, k ≠ 22 → om' k = om k) ∧ ∀ i, i < w → wc' i = f i) ∧
  ∀ om tr : Nat → Int32, ∃ om' tr', fX10_judge_L19 n r (fun o a => some ((-2 : Int32), o, a)) n 0 om tr = some (o 2, om', tr') ∧ ∀ k, k ≠ 22 → om' k = om k)
