theorem updupd (f : Nat → Int32) (k : Nat) (a b : Int32) : upd (upd f k a) k b = upd f k b := by
  funext j
  by_cases e : j = k
  · subst e; rw [upd_s, upd_s]
  · rw [upd_n _ _ e, upd_n _ _ e, upd_n _ _ e]
theorem updback (f : Nat → Int32) (k : Nat) (a : Int32) : upd (upd f k a) k (f k) = f := by
  funext j
  by_cases e : j = k
  · subst e; rw [upd_s]
  · rw [upd_n _ _ e, upd_n _ _ e]
/-- as INV.ask, the reference's object by a frame -/
theorem INV.askF {n : Nat} {X X' : Nat → Nat → Int32} {Y Y' : Nat → Int64} {c c' : Int64} {P : Nat → Nat → Nat → Int32} {M M' : Nat → Nat → Int32} (h : INV n X Y c P M) (t : Int32) (ht : t ≠ 4) (x3 : X' 0 3 = X 0 3) (x11 : X' 0 11 = X 0 11) (x4 : X' 0 4 = t) (hX : ∀ k ∈ core, X' k = X k) (h45 : X' 45 0 = X 45 0) (h46 : X' 46 0 = X 46 0)
    (hM : M' 1 = M 1 ∧ M' 15 = M 15 ∧ M' 17 = M 17 ∧ M' 18 = M 18 ∧ M' 19 = M 19) (fr : ∀ k, k ≤ 21 → M' 0 k = upd (upd (M 0) 0 0) 11 t k) : INV n X' Y' c' P M' :=
  h.ask t ht x3 x11 x4 hX h45 h46 hM (fr 11 (by decide)) ⟨fr 2 (by decide), fr 9 (by decide), fr 10 (by decide), fr 14 (by decide), fr 20 (by decide), fr 21 (by decide)⟩
theorem INV.quiet {n : Nat} {X : Nat → Nat → Int32} {Y : Nat → Int64} {c : Int64} {P : Nat → Nat → Nat → Int32} {M : Nat → Nat → Int32} (h : INV n X Y c P M) : INV n X Y c P (va_up M 0 (upd (M 0) 0 0)) :=
  h.keep (fun _ _ => rfl) rfl rfl h.1 (fun q => q) rfl rfl ⟨rfl, rfl, rfl, rfl, rfl⟩ ⟨rfl, rfl, rfl, rfl, rfl, rfl⟩
/-- an hour in the class's trial and in the reference's: after a copy -/
theorem become_eq (n : Nat) (o1 w1 l1 o w l : Nat → Int32) : fX2_become n o1 w1 l1 o w l = some (upd (upd (upd (upd o1 0 (o 0)) 1 (o 1)) 2 (o 2)) 3 (o 3), va_cpy w w1 0 0 7, va_cpy l l1 0 0 7) := rfl
theorem copy17 {n : Nat} (hn : 100 ≤ n) (f g : Nat → Int32) : fX10_copy n 0 0 17 17 17 f g = some (va_cpy f g 0 0 17) := copyS (a := 0) (b := 0) (m := 17) (by omega) (by omega) (by omega) (by omega) (by omega) f g
