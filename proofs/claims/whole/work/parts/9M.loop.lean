/-! the law's loop -/
theorem and63 (y : Int32) : ∃ k, k < 64 ∧ y &&& 63 = nI k := by
  refine ⟨(y &&& 63).toBitVec.toNat, ?_, ?_⟩
  · rw [Int32.toBitVec_and, BitVec.toNat_and]
    exact Nat.lt_of_le_of_lt Nat.and_le_right (by decide)
  · refine Int32.toBitVec_inj.mp ?_
    show (y &&& 63).toBitVec = BitVec.ofNat 32 (y &&& 63).toBitVec.toNat
    rw [BitVec.ofNat_toNat, BitVec.setWidth_eq]
theorem neg6 : ∀ L, L < 6 → nI L - 6 < (0 : Int32) := by decide +kernel
theorem cont6 {L j : Nat} (hL : L ≤ 3072) (hj : 6 * j ≤ L) (h : ¬ nI L - 6 < nI (6 * j)) : 6 * j + 6 ≤ L := by
  by_cases h6 : 6 ≤ L
  · obtain ⟨d, rfl⟩ : ∃ d, L = d + 6 := ⟨L - 6, by omega⟩
    rw [← nI_add, show nI 6 = (6 : Int32) from rfl, Int32.add_sub_cancel] at h
    have h2 := nI_ltI (a := d) (b := 6 * j) (by omega) (by omega)
    have h3 : ¬ d < 6 * j := fun z => h (h2.mpr z)
    omega
  · exact absurd (Int32.lt_of_lt_of_le (neg6 L (by omega)) (nI_pos' (by omega))) h
set_option maxHeartbeats 8000000 in
set_option maxRecDepth 100000 in
theorem law_round {p : Program} {l : Launch} {e : Env} {s : State} {m : MethodId} {below : List Frame} {meth : Method} {c : Code} {g : GG} {a am ao b L n : Nat} {xs : Nat → Int32} (hlt : l.stackTraces = false) (hT : TT (fun q : Nat => s.heap.size ≤ q) s s.heap) (hn : 2000 ≤ n) (hL : L ≤ 3072) (C0 : Cx p s m #[Value.ref b] meth c cL_law 7 (some .boolean) RL wsL_law g (fun q : Nat => s.heap.size ≤ q)) (hX : va_X b L xs s s.heap) (hbl : b < s.heap.size) (j : Nat) (hj : 6 * j ≤ L) (kk : 6 * j + 6 ≤ L → LK p l e s m #[Value.ref b] below meth c (189 + j + 1) (4302 + 6 * j + 6) (lw_Z below #[Value.ref b] s) g (fun q : Nat => s.heap.size ≤ q) a am ao b n (nI (6 * j))) : ∀ (q : Nat → Nat → Nat) (qn : Nat → Nat → Nat) (qp : Nat → Nat → Nat → Nat) (qm : Nat → Nat) (X : Nat → Nat → Int32) (Y : Nat → Int64) (ci : Int64) (P : Nat → Nat → Nat → Int32) (M : Nat → Nat → Int32) (J : Nat → Int64) (H : Heap) (locs : List Loc) (ls : Array Slot), INV n X Y ci P M → TBs X → va_P g.1 vwCl (WLD g a am ao (q 0) q qn qp qm X Y ci P M J) H → va_D (fun q : Nat => s.heap.size ≤ q) (WLD g a am ao (q 0) q qn qp qm X Y ci P M J) → va_S (fun q : Nat => s.heap.size ≤ q) s.heap H locs → lv_has ls 7 [(0, .ref b), (1, .ref a), (2, .ref am), (3, .ref ao), (4, .int (nI (6 * j)))] → W p l e room_1 s m #[Value.ref b] below meth c H locs (189 + j) (4302 + 6 * j) (lw_Z below #[Value.ref b] s) (F0 m 23 ls []) := by
  intro q qn qp qm X Y ci P M J H locs ls hI hB hP hD hS hl
  obtain ⟨hx, hb, hml, hown, hts, hr, hlk, hK, hA, hSW⟩ := id C0
  have hbA : ¬ (fun q : Nat => s.heap.size ≤ q) b := Nat.not_le.mpr hbl
  refine lv_iload hx hb dL_law_23 (lv_at hl 4 rfl) ?_
  refine lv_aload_n hx hb dL_law_25 rfl (lv_at hl 0 rfl) ?_
  refine va_slen hx hb hX hbl hbA hS dL_law_26 ?_
  refine lv_bipush (v := 6) hx hb dL_law_27 (by decide) ?_
  refine lv_isub hx hb dL_law_29 ?_
  refine lv_icmp_gt (tgt := 1706) hx hb dL_law_30 (by decide) (fun _ => ?_) (fun z => ?_)
  · refine lv_iconst (v := 1) hx hb dL_law_1706 (by decide) ?_
    refine W.widen (k := 601024) (n := 7293034) (by omega) (by omega) (va_forget (fun q hq => hS.2.2 q hq) ?_)
    exact lw_ret hx hb hr hlk dL_law_1707
  have h6 : 6 * j + 6 ≤ L := cont6 hL hj z
  have kk1 := kk h6
  have kk0 : LK p l e s m #[Value.ref b] below meth c (189 + j) (4302 + 6 * j) (lw_Z below #[Value.ref b] s) g (fun q : Nat => s.heap.size ≤ q) a am ao b n (nI (6 * j)) := fun q qn qp qm X Y ci P M J H locs ls h1 h2 h3 h4 h5 h6 => W.widen (k := 189 + j + 1) (n := 4302 + 6 * j + 6) (by omega) (by omega) (kk1 q qn qp qm X Y ci P M J H locs ls h1 h2 h3 h4 h5 h6)
  have hin : ∀ k : Nat, 1 ≤ k → k ≤ 5 → vp_in (nI (6 * j) + nI k) L := fun k h1 h2 => by
    rw [nI_add]
    exact nI_in (by omega) (by omega)
  have hc : 189 + j + 0 ≤ room_1.cells ∧ 4302 + 6 * j + 0 ≤ room_1.slots := ⟨by show 189 + j + 0 ≤ 601024; omega, by show 4302 + 6 * j + 0 ≤ 7293034; omega⟩
  have hc1 : 189 + j + 1 ≤ room_1.cells ∧ 4302 + 6 * j + 6 ≤ room_1.slots := ⟨by show 189 + j + 1 ≤ 601024; omega, by show 4302 + 6 * j + 6 ≤ 7293034; omega⟩
  refine lv_aload_n hx hb dL_law_33 rfl (lv_at hl 0 rfl) ?_
  refine lv_iload hx hb dL_law_34 (lv_at hl 4 rfl) ?_
  refine va_sld hx hb hX hbl hbA hS (nI_in (by omega) (by omega)) dL_law_36 ?_
  refine lv_bipush (v := 63) hx hb dL_law_37 (by decide) ?_
  refine lv_iand hx hb dL_law_39 ?_
  obtain ⟨k, hk, ek⟩ := and63 (xs (nI (6 * j)).toNatClampNeg)
  rw [ek]
  clear ek
  match k, hk with
  | 0, _ => exact lv_tableIn (tgt := 280) hx hb dL_law_40 (by decide) (by decide) rfl (by decide) (lc_feed hn C0 hX hbl hbA hin hc hI hB hP hD hS hl kk0)
  | 1, _ => exact lv_tableIn (tgt := 353) hx hb dL_law_40 (by decide) (by decide) rfl (by decide) (lc_evening hn C0 hX hbl hbA hin hc hI hB hP hD hS hl kk0)
  | 2, _ => exact lv_tableIn (tgt := 378) hx hb dL_law_40 (by decide) (by decide) rfl (by decide) (lc_fault hn C0 hX hbl hbA hin hc hI hB hP hD hS hl kk0)
  | 3, _ => exact lv_tableIn (tgt := 391) hx hb dL_law_40 (by decide) (by decide) rfl (by decide) (lc_where hn C0 hX hbl hbA hin hc hI hB hP hD hS hl kk0)
  | 4, _ => exact lv_tableIn (tgt := 404) hx hb dL_law_40 (by decide) (by decide) rfl (by decide) (lc_guest hn C0 hX hbl hbA hin hc hI hB hP hD hS hl kk0)
  | 5, _ => exact lv_tableIn (tgt := 441) hx hb dL_law_40 (by decide) (by decide) rfl (by decide) (lc_drawn hn C0 hX hbl hbA hin hc hI hB hP hD hS hl kk0)
  | 6, _ => exact lv_tableIn (tgt := 478) hx hb dL_law_40 (by decide) (by decide) rfl (by decide) (lc_there hn C0 hX hbl hbA hin hc hI hB hP hD hS hl kk0)
  | 7, _ => exact lv_tableIn (tgt := 491) hx hb dL_law_40 (by decide) (by decide) rfl (by decide) (lc_leaving hn C0 hX hbl hbA hin hc hI hB hP hD hS hl kk0)
  | 8, _ => exact lv_tableIn (tgt := 504) hx hb dL_law_40 (by decide) (by decide) rfl (by decide) (lc_thereIn hn C0 hX hbl hbA hin hc hI hB hP hD hS hl kk0)
  | 9, _ => exact lv_tableIn (tgt := 529) hx hb dL_law_40 (by decide) (by decide) rfl (by decide) (lc_wantIn hn C0 hX hbl hbA hin hc hI hB hP hD hS hl kk0)
  | 10, _ => exact lv_tableIn (tgt := 566) hx hb dL_law_40 (by decide) (by decide) rfl (by decide) (lc_busiest hn C0 hX hbl hbA hin hc hI hB hP hD hS hl kk0)
  | 11, _ => exact lv_tableIn (tgt := 607) hx hb dL_law_40 (by decide) (by decide) rfl (by decide) (lc_order hn C0 hX hbl hbA hin hc hI hB hP hD hS hl kk0)
  | 12, _ => exact lv_tableIn (tgt := 632) hx hb dL_law_40 (by decide) (by decide) rfl (by decide) (lc_pull hn C0 hX hbl hbA hin hc hI hB hP hD hS hl kk0)
  | 13, _ => exact lv_tableIn (tgt := 657) hx hb dL_law_40 (by decide) (by decide) rfl (by decide) (lc_leavesIn hn C0 hX hbl hbA hin hc hI hB hP hD hS hl kk0)
  | 14, _ => exact lv_tableIn (tgt := 682) hx hb dL_law_40 (by decide) (by decide) rfl (by decide) (lc_ends hn C0 hX hbl hbA hin hc hI hB hP hD hS hl kk0)
  | 15, _ => exact lv_tableIn (tgt := 695) hx hb dL_law_40 (by decide) (by decide) rfl (by decide) (lc_last hn C0 hX hbl hbA hin hc hI hB hP hD hS hl kk0)
  | 16, _ => exact lv_tableIn (tgt := 708) hx hb dL_law_40 (by decide) (by decide) rfl (by decide) (lc_chain hn C0 hX hbl hbA hin hc hI hB hP hD hS hl kk0)
  | 17, _ => exact lv_tableIn (tgt := 733) hx hb dL_law_40 (by decide) (by decide) rfl (by decide) (lc_biggest hn C0 hX hbl hbA hin hc hI hB hP hD hS hl kk0)
  | 18, _ => exact lv_tableIn (tgt := 746) hx hb dL_law_40 (by decide) (by decide) rfl (by decide) (lc_undrawn hn C0 hX hbl hbA hin hc hI hB hP hD hS hl kk0)
  | 19, _ => exact lv_tableIn (tgt := 783) hx hb dL_law_40 (by decide) (by decide) rfl (by decide) (lc_apart hn C0 hX hbl hbA hin hc hI hB hP hD hS hl kk0)
  | 20, _ => exact lv_tableIn (tgt := 808) hx hb dL_law_40 (by decide) (by decide) rfl (by decide) (lc_rounds hn C0 hX hbl hbA hin hc hI hB hP hD hS hl kk0)
  | 21, _ => exact lv_tableIn (tgt := 821) hx hb dL_law_40 (by decide) (by decide) rfl (by decide) (lc_byGrief hn C0 hX hbl hbA hin hc hI hB hP hD hS hl kk0)
  | 22, _ => exact lv_tableIn (tgt := 846) hx hb dL_law_40 (by decide) (by decide) rfl (by decide) (lc_tireFor hn C0 hX hbl hbA hin hc hI hB hP hD hS hl kk0)
  | 23, _ => exact lv_tableIn (tgt := 871) hx hb dL_law_40 (by decide) (by decide) rfl (by decide) (lc_endsWithout hn C0 hX hbl hbA hin hc hI hB hP hD hS hl kk0)
  | 24, _ => exact lv_tableIn (tgt := 896) hx hb dL_law_40 (by decide) (by decide) rfl (by decide) (lc_holder hn C0 hX hbl hbA hin hc hI hB hP hD hS hl kk0)
  | 25, _ => exact lv_tableIn (tgt := 909) hx hb dL_law_40 (by decide) (by decide) rfl (by decide) (lc_without hn C0 hX hbl hbA hin hc hI hB hP hD hS hl kk0)
  | 26, _ => exact lv_tableIn (tgt := 934) hx hb dL_law_40 (by decide) (by decide) rfl (by decide) (lc_endsWithTale hn C0 hX hbl hbA hin hc hI hB hP hD hS hl kk0)
  | 27, _ => exact lv_tableIn (tgt := 959) hx hb dL_law_40 (by decide) (by decide) rfl (by decide) (lc_endsWithCup hn C0 hX hbl hbA hin hc hI hB hP hD hS hl kk0)
  | 28, _ => exact lv_tableIn (tgt := 984) hx hb dL_law_40 (by decide) (by decide) rfl (by decide) (lc_bestCup hn C0 hX hbl hbA hin hc hI hB hP hD hS hl kk0)
  | 29, _ => exact lv_tableIn (tgt := 997) hx hb dL_law_40 (by decide) (by decide) rfl (by decide) (lc_soonest hn C0 hX hbl hbA hin hc hI hB hP hD hS hl kk0)
  | 30, _ => exact lv_tableIn (tgt := 1010) hx hb dL_law_40 (by decide) (by decide) rfl (by decide) (lc_taleAt hn C0 hX hbl hbA hin hc hI hB hP hD hS hl kk0)
  | 31, _ => exact lv_tableIn (tgt := 1035) hx hb dL_law_40 (by decide) (by decide) rfl (by decide) (lc_latest hn C0 hX hbl hbA hin hc hI hB hP hD hS hl kk0)
  | 32, _ => exact lv_tableIn (tgt := 1048) hx hb dL_law_40 (by decide) (by decide) rfl (by decide) (lc_cupsFor hn C0 hX hbl hbA hin hc hI hB hP hD hS hl kk0)
  | 33, _ => exact lv_tableIn (tgt := 1073) hx hb dL_law_40 (by decide) (by decide) rfl (by decide) (lc_cupsTo hn C0 hX hbl hbA hin hc hI hB hP hD hS hl kk0)
  | 34, _ => exact lv_tableIn (tgt := 1098) hx hb dL_law_40 (by decide) (by decide) rfl (by decide) (lc_ways hn C0 hX hbl hbA hin hc hI hB hP hD hS hl kk0)
  | 35, _ => exact lv_tableIn (tgt := 1111) hx hb dL_law_40 (by decide) (by decide) rfl (by decide) (lc_wayAt hn C0 hX hbl hbA hin hc hI hB hP hD hS hl kk0)
  | 36, _ => exact lv_tableIn (tgt := 1136) hx hb dL_law_40 (by decide) (by decide) rfl (by decide) (lc_judge hn C0 hX hbl hbA hin hc hI hB hP hD hS hl kk0)
  | 37, _ => exact lv_tableIn (tgt := 1149) hx hb dL_law_40 (by decide) (by decide) rfl (by decide) (lc_pays hn C0 hX hbl hbA hin hc hI hB hP hD hS hl kk0)
  | 38, _ => exact lv_tableIn (tgt := 1174) hx hb dL_law_40 (by decide) (by decide) rfl (by decide) (lc_paid hn C0 hX hbl hbA hin hc hI hB hP hD hS hl kk0)
  | 39, _ => exact lv_tableIn (tgt := 1187) hx hb dL_law_40 (by decide) (by decide) rfl (by decide) (lc_house hn C0 hX hbl hbA hin hc hI hB hP hD hS hl kk0)
  | 40, _ => exact lv_tableIn (tgt := 1252) hx hb dL_law_40 (by decide) (by decide) rfl (by decide) (lc_rests hn C0 hX hbl hbA hin hc hI hB hP hD hS hl kk0)
  | 41, _ => exact lv_tableIn (tgt := 1265) hx hb dL_law_40 (by decide) (by decide) rfl (by decide) (lc_rest hn C0 hX hbl hbA hin hc hI hB hP hD hS hl kk0)
  | 42, _ => exact lv_tableIn (tgt := 1278) hx hb dL_law_40 (by decide) (by decide) rfl (by decide) (lc_endsBy hn C0 hX hbl hbA hin hc hI hB hP hD hS hl kk0)
  | 43, _ => exact lv_tableIn (tgt := 1303) hx hb dL_law_40 (by decide) (by decide) rfl (by decide) (lc_mean hn C0 hX hbl hbA hin hc hI hB hP hD hS hl kk0)
  | 44, _ => exact lv_tableIn (tgt := 1369) hx hb dL_law_40 (by decide) (by decide) rfl (by decide) (lc_often hn C0 hX hbl hbA hin hc hI hB hP hD hS hl kk0)
  | 45, _ => exact lv_tableIn (tgt := 1418) hx hb dL_law_40 (by decide) (by decide) rfl (by decide) (lc_keeps hn C0 hX hbl hbA hin hc hI hB hP hD hS hl kk0)
  | 46, _ => exact lv_tableIn (tgt := 1467) hx hb dL_law_40 (by decide) (by decide) rfl (by decide) (lc_hour hn C0 hX hbl hbA hin hc hI hB hP hD hS hl kk0)
  | 47, _ => exact lv_tableIn (tgt := 1480) hx hb dL_law_40 (by decide) (by decide) rfl (by decide) (lc_tell hn C0 hX hbl hbA hin hc hI hB hP hD hS hl kk0)
  | 48, _ => exact lv_tableIn (tgt := 1505) hx hb dL_law_40 (by decide) (by decide) rfl (by decide) (lc_cup hn C0 hX hbl hbA hin hc hI hB hP hD hS hl kk0)
  | 49, _ => exact lv_tableIn (tgt := 1530) hx hb dL_law_40 (by decide) (by decide) rfl (by decide) (lc_send hn C0 hX hbl hbA hin hc hI hB hP hD hS hl kk0)
  | 50, _ => exact lv_tableIn (tgt := 1555) hx hb dL_law_40 (by decide) (by decide) rfl (by decide) (lc_undo hn C0 hX hbl hbA hin hc hI hB hP hD hS hl kk0)
  | 51, _ => exact lv_tableIn (tgt := 1568) hx hb dL_law_40 (by decide) (by decide) rfl (by decide) (lc_image hn C0 hX hbl hbA hin hc hI hB hP hD hS hl kk0)
  | 52, _ => exact lv_tableIn (tgt := 1581) hx hb dL_law_40 (by decide) (by decide) rfl (by decide) (lc_back hn C0 hX hbl hbA hin hc hI hB hP hD hS hl kk0)
  | 53, _ => exact lv_tableIn (tgt := 1606) hx hb dL_law_40 (by decide) (by decide) rfl (by decide) (lc_led hlt hT hn C0 hX hbl hbA hin hc1 hI hB hP hD hS hl kk1)
  | 54, _ => exact lv_tableIn (tgt := 1662) hx hb dL_law_40 (by decide) (by decide) rfl (by decide) (lc_size hn C0 hX hbl hbA hin hc hI hB hP hD hS hl kk0)
  | 55, _ => exact lv_tableIn (tgt := 1687) hx hb dL_law_40 (by decide) (by decide) rfl (by decide) (lc_trouble hn C0 hX hbl hbA hin hc hI hB hP hD hS hl kk0)
  | k + 56, h => exact lv_tableOut (tgt := 1700) hx hb dL_law_40 (Or.inr (by rw [nI_toInt (by omega)]; omega)) (by decide) (kk0 q qn qp qm X Y ci P M J H locs ls hI hB hP hD hS hl)
theorem law_loop {p : Program} {l : Launch} {e : Env} {s : State} {m : MethodId} {below : List Frame} {meth : Method} {c : Code} {g : GG} {a am ao b L n : Nat} {xs : Nat → Int32} (hlt : l.stackTraces = false) (hT : TT (fun q : Nat => s.heap.size ≤ q) s s.heap) (hn : 2000 ≤ n) (hL : L ≤ 3072) (C0 : Cx p s m #[Value.ref b] meth c cL_law 7 (some .boolean) RL wsL_law g (fun q : Nat => s.heap.size ≤ q)) (hX : va_X b L xs s s.heap) (hbl : b < s.heap.size) : ∀ (k j : Nat), L < 6 * (j + k) + 6 → 6 * j ≤ L → ∀ (q : Nat → Nat → Nat) (qn : Nat → Nat → Nat) (qp : Nat → Nat → Nat → Nat) (qm : Nat → Nat) (X : Nat → Nat → Int32) (Y : Nat → Int64) (ci : Int64) (P : Nat → Nat → Nat → Int32) (M : Nat → Nat → Int32) (J : Nat → Int64) (H : Heap) (locs : List Loc) (ls : Array Slot), INV n X Y ci P M → TBs X → va_P g.1 vwCl (WLD g a am ao (q 0) q qn qp qm X Y ci P M J) H → va_D (fun q : Nat => s.heap.size ≤ q) (WLD g a am ao (q 0) q qn qp qm X Y ci P M J) → va_S (fun q : Nat => s.heap.size ≤ q) s.heap H locs → lv_has ls 7 [(0, .ref b), (1, .ref a), (2, .ref am), (3, .ref ao), (4, .int (nI (6 * j)))] → W p l e room_1 s m #[Value.ref b] below meth c H locs (189 + j) (4302 + 6 * j) (lw_Z below #[Value.ref b] s) (F0 m 23 ls []) := by
  intro k
  induction k with
  | zero =>
    intro j hk hj
    exact law_round hlt hT hn hL C0 hX hbl j hj (fun h6 => absurd h6 (by omega))
  | succ k ih =>
    intro j hk hj
    refine law_round hlt hT hn hL C0 hX hbl j hj (fun h6 => ?_)
    intro q qn qp qm X Y ci P M J H locs ls h1 h2 h3 h4 h5 hl
    obtain ⟨hx, hb, hml, hown, hts, hr, hlk, hK, hA, hSW⟩ := id C0
    refine lv_iinc (v := nI (6 * (j + 1))) (lv' := [(4, .int (nI (6 * (j + 1)))), (0, .ref b), (1, .ref a), (2, .ref am), (3, .ref ao)]) hx hb dL_law_1700 hl (k := 4) rfl (show nI (6 * j) + nI 6 = nI (6 * (j + 1)) by rw [nI_add, Nat.mul_add]) (by decide) rfl (fun ls hl => ?_)
    refine lv_goto (tgt := 23) hx hb dL_law_1703 (by decide) ?_
    have hl : lv_has ls 7 [(0, .ref b), (1, .ref a), (2, .ref am), (3, .ref ao), (4, .int (nI (6 * (j + 1))))] := lv_sub hl [1, 2, 3, 4, 0] rfl
    exact ih (j + 1) (by omega) (by omega) q qn qp qm X Y ci P M J H locs ls h1 h2 h3 h4 h5 hl
