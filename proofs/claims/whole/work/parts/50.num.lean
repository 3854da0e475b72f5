/-! rows on bits, shifts and unsigned numbers, to paste: each family out of a closed proof of our own, whole with what it rests on; each by itself clean at Lean in its own claim (generation 39, form 5). Take a family whole -/
/-! ===== Int32 by its bits: bt x i ===== -/
def bt (x : Int32) (i : Nat) : Bool := x.toBitVec.getLsbD i
theorem b_ext {x y : Int32} (h : ∀ i, i < 32 → bt x i = bt y i) : x = y := Int32.toBitVec_inj.mp (BitVec.eq_of_getLsbD_eq (fun i hi => h i hi))
theorem b_or (x y : Int32) (i : Nat) : bt (x ||| y) i = (bt x i || bt y i) := by unfold bt; rw [Int32.toBitVec_or, BitVec.getLsbD_or]
theorem b_and (x y : Int32) (i : Nat) : bt (x &&& y) i = (bt x i && bt y i) := by unfold bt; rw [Int32.toBitVec_and, BitVec.getLsbD_and]
theorem b_xor (x y : Int32) (i : Nat) : bt (x ^^^ y) i = (bt x i ^^ bt y i) := by unfold bt; rw [Int32.toBitVec_xor, BitVec.getLsbD_xor]
theorem b_big {x : Int32} {i : Nat} (h : 32 ≤ i) : bt x i = false := BitVec.getLsbD_of_ge _ _ h
theorem b_255 (i : Nat) : bt 255 i = decide (i < 8) := by
  rcases Nat.lt_or_ge i 32 with h | h
  · exact (by decide +kernel : ∀ i, i < 32 → bt 255 i = decide (i < 8)) i h
  · rw [b_big h, decide_eq_false (by omega)]
theorem b_65535 (i : Nat) : bt 65535 i = decide (i < 16) := by
  rcases Nat.lt_or_ge i 32 with h | h
  · exact (by decide +kernel : ∀ i, i < 32 → bt 65535 i = decide (i < 16)) i h
  · rw [b_big h, decide_eq_false (by omega)]
theorem b_m1 : ∀ i, i < 32 → bt (-1) i = true := by decide +kernel
theorem b_0 (i : Nat) : bt 0 i = false := BitVec.getLsbD_zero
theorem s_l : ∀ n, n < 32 → ((nI n &&& 31).toBitVec.smod 32).toNat = n := by decide +kernel
theorem s_u : ∀ n, n < 32 → (((nI n).toUInt32 &&& Int32.toUInt32 31).toBitVec % 32).toNat = n := by decide +kernel
theorem b_shl (n : Nat) (hn : n < 32) (x : Int32) {i : Nat} (hi : i < 32) : bt (x <<< (nI n &&& 31)) i = (decide (n ≤ i) && bt x (i - n)) := by
  unfold bt
  rw [Int32.toBitVec_shiftLeft]
  show (x.toBitVec <<< ((nI n &&& 31).toBitVec.smod 32).toNat).getLsbD i = _
  rw [s_l n hn, BitVec.getLsbD_shiftLeft]
  rcases Nat.lt_or_ge i n with h | h
  · simp [h, Nat.not_le.mpr h]
  · simp [hi, h, Nat.not_lt.mpr h]
theorem b_ushr (n : Nat) (hn : n < 32) (x : Int32) (i : Nat) : bt ((x.toUInt32 >>> ((nI n).toUInt32 &&& Int32.toUInt32 31)).toInt32) i = bt x (n + i) := by
  show (x.toUInt32 >>> ((nI n).toUInt32 &&& Int32.toUInt32 31)).toBitVec.getLsbD i = x.toUInt32.toBitVec.getLsbD (n + i)
  rw [UInt32.toBitVec_shiftRight]
  show (x.toUInt32.toBitVec >>> (((nI n).toUInt32 &&& Int32.toUInt32 31).toBitVec % 32).toNat).getLsbD i = _
  rw [s_u n hn, BitVec.getLsbD_ushiftRight]
theorem b_sshr (n : Nat) (hn : n < 32) (x : Int32) {i : Nat} (hi : i < 32) : bt (x >>> (nI n &&& 31)) i = if n + i < 32 then bt x (n + i) else bt x 31 := by
  unfold bt
  rw [Int32.toBitVec_shiftRight]
  show (x.toBitVec.sshiftRight ((nI n &&& 31).toBitVec.smod 32).toNat).getLsbD i = _
  rw [s_l n hn, BitVec.getLsbD_sshiftRight, BitVec.msb_eq_getLsbD_last]
  simp [hi]
theorem b_shl8 (x : Int32) {i : Nat} (hi : i < 32) : bt (x <<< ((8 : Int32) &&& 31)) i = (decide (8 ≤ i) && bt x (i - 8)) := b_shl 8 (by omega) x hi
theorem b_shl16 (x : Int32) {i : Nat} (hi : i < 32) : bt (x <<< ((16 : Int32) &&& 31)) i = (decide (16 ≤ i) && bt x (i - 16)) := b_shl 16 (by omega) x hi
theorem b_shl24 (x : Int32) {i : Nat} (hi : i < 32) : bt (x <<< ((24 : Int32) &&& 31)) i = (decide (24 ≤ i) && bt x (i - 24)) := b_shl 24 (by omega) x hi
theorem b_sshr8 (x : Int32) {i : Nat} (hi : i < 32) : bt (x >>> ((8 : Int32) &&& 31)) i = if 8 + i < 32 then bt x (8 + i) else bt x 31 := b_sshr 8 (by omega) x hi
/-! numbers and bits, my own -/
theorem ckI {k N : Nat} (h : k < N) (hN : N < 2 ^ 31) : ¬ (nI k < 0 ∨ N ≤ (nI k).toNatClampNeg) := nI_in h hN
theorem ckK {k N : Nat} (h : k < N) (hN : N < 2 ^ 31) : ¬ (nI k < 0 ∨ N ≤ k) := fun q => q.elim (fun a => nI_pos (by omega) a) (fun b => by omega)
theorem i10 : ¬ (1 : Int32) = 0 := by decide
theorem i00 : (0 : Int32) = 0 := rfl
theorem clI {k : Nat} (h : k < 2 ^ 31) : (nI k).toNatClampNeg = k := nI_clamp h
theorem sI (k : Nat) : nI k + (1 : Int32) = nI (k + 1) := nI_1 k
theorem bit_eq (x : Int32) (g : Nat) (hg : g < 31) : ((x >>> (nI g &&& 31)) &&& (1 : Int32)) = if bt x g then 1 else 0 := by
  refine b_ext (fun i hi => ?_)
  rw [b_and, b_sshr g (by omega) x hi]
  rcases Nat.eq_zero_or_pos i with rfl | h
  · have h1 : bt (1 : Int32) 0 = true := by decide
    rw [h1, Bool.and_true, Nat.add_zero, if_pos (by omega)]
    cases bt x g
    · rw [if_neg (by decide)]; exact (b_0 0).symm
    · rw [if_pos rfl]; exact h1.symm
  · have h1 : ∀ i, i < 32 → 0 < i → bt (1 : Int32) i = false := by decide +kernel
    rw [h1 i hi h, Bool.and_false]
    cases bt x g
    · rw [if_neg (by decide)]; exact (b_0 i).symm
    · rw [if_pos rfl]; exact (h1 i hi h).symm
theorem bit_is (x : Int32) {g : Nat} (hg : g < 31) : ((x >>> (nI g &&& 31)) &&& (1 : Int32)) = (1 : Int32) ↔ bt x g = true := by
  rw [bit_eq x g hg]
  cases bt x g
  · exact ⟨fun h => absurd h (by decide), fun h => absurd h (by decide)⟩
  · exact ⟨fun _ => rfl, fun _ => rfl⟩
theorem b_one : ∀ g, g < 31 → ∀ i, i < 32 → bt ((1 : Int32) <<< (nI g &&& 31)) i = decide (i = g) := by decide +kernel
theorem b_all : ∀ G, G ≤ 7 → ∀ i, i < 32 → bt (((1 : Int32) <<< (nI G &&& 31)) - (1 : Int32)) i = decide (i < G) := by decide +kernel
theorem b_not (x : Int32) {i : Nat} (hi : i < 32) : bt (x ^^^ (-1 : Int32)) i = !bt x i := by
  rw [b_xor, b_m1 i hi]; cases bt x i <;> rfl
theorem upd_s (f : Nat → Int32) (k : Nat) (x : Int32) : upd f k x k = x := pk_us
theorem upd_n (f : Nat → Int32) {k j : Nat} (x : Int32) (h : j ≠ k) : upd f k x j = f j := pk_un h
theorem ob1_ss {A Z : Type} (a : A) (k : A → Option Z) : ob1 (some a) k = k a := rfl
theorem ob2_ss {A B Z : Type} (a : A) (b : B) (k : A → B → Option Z) : ob2 (some (a, b)) k = k a b := rfl
theorem ob3_ss {A B C Z : Type} (a : A) (b : B) (c : C) (k : A → B → C → Option Z) : ob3 (some (a, b, c)) k = k a b c := rfl
theorem ob5_ss {A B C D E Z : Type} (a : A) (b : B) (c : C) (d : D) (e : E) (k : A → B → C → D → E → Option Z) : ob5 (some (a, b, c, d, e)) k = k a b c d e := rfl
theorem ob6_ss {A B C D E F Z : Type} (a : A) (b : B) (c : C) (d : D) (e : E) (f : F) (k : A → B → C → D → E → F → Option Z) : ob6 (some (a, b, c, d, e, f)) k = k a b c d e f := rfl
/-- the row of the reference at a + b, small -/
theorem addI (a b : Nat) : nI a + nI b = nI (a + b) := nI_add a b
theorem mulI (a b : Nat) : nI a * nI b = nI (a * b) := pk_mul a b
theorem lz7 : (7 : Int32) = nI 7 := rfl
theorem lz9 : (9 : Int32) = nI 9 := rfl
theorem lz4 : (4 : Int32) = nI 4 := rfl
theorem lz2 : (2 : Int32) = nI 2 := rfl
theorem lz3 : (3 : Int32) = nI 3 := rfl
theorem lz1 : (1 : Int32) = nI 1 := rfl
theorem lz0 : (0 : Int32) = nI 0 := rfl
theorem lz37 : (37 : Int32) = nI 37 := rfl
/-! small methods -/
theorem inBitsS (n : Nat) (x : Int32) {g : Nat} (hg : g < 31) : fX9_inBits n x (nI g) = some (if bt x g then 1 else 0) := by
  rw [fX9_inBits]
  by_cases h : bt x g = true
  · rw [if_pos ((bit_is x hg).mpr h), if_pos h]
  · rw [if_neg (fun q => h ((bit_is x hg).mp q)), if_neg h]
theorem hasBitS (n : Nat) (x : Int32) {g : Nat} (hg : g < 31) : fX10_hasBit n x (nI g) = some (if bt x g then 1 else 0) := by
  rw [fX10_hasBit]
  by_cases h : bt x g = true
  · rw [if_pos ((bit_is x hg).mpr h), if_pos h]
  · rw [if_neg (fun q => h ((bit_is x hg).mp q)), if_neg h]
theorem hasS (n : Nat) (o : Nat → Int32) {g : Nat} (hg : g < 31) : fX2_has n (nI g) o = some (if bt (o 1) g then 1 else 0) := by
  rw [fX2_has, inBitsS n _ hg, ob1_ss]
  cases bt (o 1) g <;> rfl
theorem wasToldS (n : Nat) (o : Nat → Int32) {g : Nat} (hg : g < 31) : fX2_wasTold n (nI g) o = some (if bt (o 3) g then 1 else 0) := by
  rw [fX2_wasTold, inBitsS n _ hg, ob1_ss]
  cases bt (o 3) g <;> rfl
theorem isInS (n : Nat) (f : Nat → Int32) {g : Nat} (hg : g < 7) : fX10_isIn n (nI g) f = some (if f (7 + g) = 0 then 1 else 0) := by
  rw [fX10_isIn, lz7, addI, if_neg (ckI (by omega) (by omega)), clI (by omega)]
  by_cases h : f (7 + g) = 0
  · rw [if_pos h, if_pos h]
  · rw [if_neg h, if_neg h]
theorem kindOfS (n : Nat) (o r : Nat → Int32) {g : Nat} (hg : g < 7) : fX10_kindOf n (nI g) o r = some (r (9 + 4 * g)) := by
  rw [fX10_kindOf, lz9, lz4, mulI, addI, if_neg (ckI (by omega) (by omega)), clI (by omega)]
theorem sinksOfS (n : Nat) (o r : Nat → Int32) {g : Nat} (hg : g < 7) : fX10_sinksOf n (nI g) o r = some (r (9 + 4 * g + 2)) := by
  rw [fX10_sinksOf, lz9, lz4, lz2, mulI, addI, addI, if_neg (ckI (by omega) (by omega)), clI (by omega)]
