/-! what the start gives: classes, arrays, texts, statics -/
theorem arr_of {args : Array Value} {s : State} {ty : FieldType} (h : (Cond.arrayClass ty).before args s = true) : ∃ cA : ClassId, ArrOfT s cA ty ∧ s.vm.findClass ("[" ++ ty.toString) = some cA := by
  obtain ⟨c, k, comp, h1, h2, h3⟩ := Cond.arrayClass_spec (args := args) (first := s) (o := none) (s := s) (idx := []) h
  exact ⟨c, fun n z => ⟨fun k h => (by cases h), k, h2, comp, h3⟩, h1⟩
theorem mem_pl {L M : List Cond} (ps : List Nat) (h : M = ps.filterMap (fun i => L[i]?)) : ∀ w ∈ M, w ∈ L := by
  intro w hw
  rw [h] at hw
  obtain ⟨i, -, hi⟩ := List.mem_filterMap.mp hw
  exact List.mem_of_getElem? hi
abbrev FLT : List Cond := flatC (Jvm.Cond.and given_1 narrow_1)
abbrev tmS (i : Nat) : Term := Term.string "EveningVowModel" (SIx.getD i 0)
set_option maxRecDepth 100000 in
theorem fs_ex : (List.range 22).map (fun i => Cond.exactly (tmS i) "java/lang/String") = ([22, 65, 78, 91, 106, 121, 137, 154, 33, 42, 53, 172, 192, 214, 236, 262, 285, 310, 333, 360, 388, 416] : List Nat).filterMap (fun i => FLT[i]?) := by decide +kernel
set_option maxRecDepth 100000 in
theorem fs_co : (List.range 22).map (fun i => Cond.eq (.field (tmS i) "java/lang/String" "coder" "B") (.int 0)) = ([23, 66, 79, 92, 107, 122, 138, 155, 34, 43, 54, 173, 193, 215, 237, 263, 286, 311, 334, 361, 389, 417] : List Nat).filterMap (fun i => FLT[i]?) := by decide +kernel
set_option maxRecDepth 100000 in
theorem fs_ar : (List.range 22).map (fun i => Cond.arrayOf (.field (tmS i) "java/lang/String" "value" "[B") .byte) = ([24, 67, 80, 93, 108, 123, 139, 156, 35, 44, 55, 174, 194, 216, 238, 264, 287, 312, 335, 362, 390, 418] : List Nat).filterMap (fun i => FLT[i]?) := by decide +kernel
set_option maxRecDepth 100000 in
theorem fs_le : (List.range 22).map (fun i => Cond.eq (.length (.field (tmS i) "java/lang/String" "value" "[B")) (.int (Int32.ofNat (SLn.getD i 0)))) = ([25, 68, 81, 94, 109, 124, 140, 157, 36, 45, 56, 175, 195, 217, 239, 265, 288, 313, 336, 363, 391, 419] : List Nat).filterMap (fun i => FLT[i]?) := by decide +kernel
set_option maxRecDepth 100000 in
theorem fs_el : (List.range 22).flatMap (fun i => (List.range (SLn.getD i 0)).map (fun j => Cond.eq (.elem (.field (tmS i) "java/lang/String" "value" "[B") (.int (Int32.ofNat j))) (.int ((SBy.getD i []).getD j 0)))) = ([26, 27, 28, 29, 30, 31, 32, 69, 70, 71, 72, 73, 82, 83, 84, 85, 95, 96, 97, 98, 99, 110, 111, 112, 113, 125, 126, 127, 128, 141, 142, 143, 144, 158, 159, 160, 161, 37, 38, 39, 40, 46, 47, 48, 49, 50, 57, 58, 59, 60, 61, 176, 177, 178, 179, 180, 196, 197, 198, 199, 200, 201, 218, 219, 220, 221, 222, 240, 241, 242, 243, 244, 245, 246, 247, 266, 267, 268, 269, 289, 290, 291, 292, 293, 314, 315, 337, 338, 339, 340, 341, 364, 365, 366, 367, 368, 392, 393, 394, 395, 420, 421, 422, 423] : List Nat).filterMap (fun i => FLT[i]?) := by decide +kernel
def prS : List (Nat × Nat) := [(0, 1), (0, 2), (0, 3), (0, 4), (0, 5), (0, 6), (0, 7), (0, 8), (0, 9), (0, 10), (0, 11), (0, 12), (0, 13), (0, 14), (0, 15), (0, 16), (0, 17), (0, 18), (0, 19), (0, 20), (0, 21), (1, 2), (1, 3), (1, 4), (1, 5), (1, 6), (1, 7), (1, 11), (1, 12), (1, 13), (1, 14), (1, 15), (1, 16), (1, 17), (1, 18), (1, 19), (1, 20), (1, 21), (2, 3), (2, 4), (2, 5), (2, 6), (2, 7), (2, 11), (2, 12), (2, 13), (2, 14), (2, 15), (2, 16), (2, 17), (2, 18), (2, 19), (2, 20), (2, 21), (3, 4), (3, 5), (3, 6), (3, 7), (3, 11), (3, 12), (3, 13), (3, 14), (3, 15), (3, 16), (3, 17), (3, 18), (3, 19), (3, 20), (3, 21), (4, 5), (4, 6), (4, 7), (4, 11), (4, 12), (4, 13), (4, 14), (4, 15), (4, 16), (4, 17), (4, 18), (4, 19), (4, 20), (4, 21), (5, 6), (5, 7), (5, 11), (5, 12), (5, 13), (5, 14), (5, 15), (5, 16), (5, 17), (5, 18), (5, 19), (5, 20), (5, 21), (6, 7), (6, 11), (6, 12), (6, 13), (6, 14), (6, 15), (6, 16), (6, 17), (6, 18), (6, 19), (6, 20), (6, 21), (7, 11), (7, 12), (7, 13), (7, 14), (7, 15), (7, 16), (7, 17), (7, 18), (7, 19), (7, 20), (7, 21), (8, 1), (8, 2), (8, 3), (8, 4), (8, 5), (8, 6), (8, 7), (8, 9), (8, 10), (8, 11), (8, 12), (8, 13), (8, 14), (8, 15), (8, 16), (8, 17), (8, 18), (8, 19), (8, 20), (8, 21), (9, 1), (9, 2), (9, 3), (9, 4), (9, 5), (9, 6), (9, 7), (9, 10), (9, 11), (9, 12), (9, 13), (9, 14), (9, 15), (9, 16), (9, 17), (9, 18), (9, 19), (9, 20), (9, 21), (10, 1), (10, 2), (10, 3), (10, 4), (10, 5), (10, 6), (10, 7), (10, 11), (10, 12), (10, 13), (10, 14), (10, 15), (10, 16), (10, 17), (10, 18), (10, 19), (10, 20), (10, 21), (11, 12), (11, 13), (11, 14), (11, 15), (11, 16), (11, 17), (11, 18), (11, 19), (11, 20), (11, 21), (12, 13), (12, 14), (12, 15), (12, 16), (12, 17), (12, 18), (12, 19), (12, 20), (12, 21), (13, 14), (13, 15), (13, 16), (13, 17), (13, 18), (13, 19), (13, 20), (13, 21), (14, 15), (14, 16), (14, 17), (14, 18), (14, 19), (14, 20), (14, 21), (15, 16), (15, 17), (15, 18), (15, 19), (15, 20), (15, 21), (16, 17), (16, 18), (16, 19), (16, 20), (16, 21), (17, 18), (17, 19), (17, 20), (17, 21), (18, 19), (18, 20), (18, 21), (19, 20), (19, 21), (20, 21)]
theorem prS_b : ((List.range 22).all (fun i => (List.range 22).all (fun j => decide (i = j) || decide ((i, j) ∈ prS) || decide ((j, i) ∈ prS)))) = true := by decide +kernel
theorem prS_all (i : Nat) (hi : i < 22) (j : Nat) (hj : j < 22) (hne : i ≠ j) : (i, j) ∈ prS ∨ (j, i) ∈ prS := by
  have h := List.all_eq_true.mp (List.all_eq_true.mp prS_b i (List.mem_range.mpr hi)) j (List.mem_range.mpr hj)
  simp only [Bool.or_eq_true, decide_eq_true_eq] at h
  rcases h with (h | h) | h
  · exact absurd h hne
  · exact Or.inl h
  · exact Or.inr h
set_option maxRecDepth 100000 in
theorem fs_ne : prS.map (fun q => Cond.not (Cond.eq (tmS q.1) (tmS q.2))) = ([74, 86, 100, 114, 129, 145, 162, 41, 51, 62, 181, 202, 223, 248, 270, 294, 316, 342, 369, 396, 424, 90, 104, 118, 133, 149, 166, 185, 206, 227, 252, 274, 298, 320, 346, 373, 400, 428, 105, 119, 134, 150, 167, 186, 207, 228, 253, 275, 299, 321, 347, 374, 401, 429, 120, 135, 151, 168, 187, 208, 229, 254, 276, 300, 322, 348, 375, 402, 430, 136, 152, 169, 188, 209, 230, 255, 277, 301, 323, 349, 376, 403, 431, 153, 170, 189, 210, 231, 256, 278, 302, 324, 350, 377, 404, 432, 171, 190, 211, 232, 257, 279, 303, 325, 351, 378, 405, 433, 191, 212, 233, 258, 280, 304, 326, 352, 379, 406, 434, 75, 87, 101, 115, 130, 146, 163, 52, 63, 182, 203, 224, 249, 271, 295, 317, 343, 370, 397, 425, 76, 88, 102, 116, 131, 147, 164, 64, 183, 204, 225, 250, 272, 296, 318, 344, 371, 398, 426, 77, 89, 103, 117, 132, 148, 165, 184, 205, 226, 251, 273, 297, 319, 345, 372, 399, 427, 213, 234, 259, 281, 305, 327, 353, 380, 407, 435, 235, 260, 282, 306, 328, 354, 381, 408, 436, 261, 283, 307, 329, 355, 382, 409, 437, 284, 308, 330, 356, 383, 410, 438, 309, 331, 357, 384, 411, 439, 332, 358, 385, 412, 440, 359, 386, 413, 441, 387, 414, 442, 415, 443, 444] : List Nat).filterMap (fun i => FLT[i]?) := by decide +kernel
set_option maxRecDepth 100000 in
theorem fs_sr : (List.range 22).map (fun i => Cond.stringRef "EveningVowModel" (SIx.getD i 0) (STx.getD i "")) = ([1406, 1486, 1503, 1504, 1505, 1506, 1507, 1508, 1467, 1484, 1485, 1513, 1514, 1515, 1516, 1517, 1518, 1535, 1540, 1541, 1546, 1551] : List Nat).filterMap (fun i => lw_tbl[i]?) := by decide +kernel
set_option maxRecDepth 100000 in
theorem fs_nest : nestL.map (fun q => Cond.methodLinkNest q.1 q.2.1 q.2.2.1 q.2.2.2) = ([777, 146, 203, 354, 468, 499, 473, 209, 420, 439, 504] : List Nat).filterMap (fun i => lw_tbl[i]?) := by decide +kernel
set_option maxHeartbeats 4000000 in
set_option maxRecDepth 100000 in
theorem start_facts {b : Nat} {s : State} (hts : ∀ w ∈ lw_tbl, w.before #[Value.ref b] s = true) (hgv : (Jvm.Cond.and given_1 narrow_1).before #[Value.ref b] s = true) : ∃ g : GG, KB g s ∧ SW g (fun q : Nat => s.heap.size ≤ q) s s.heap ∧ TT (fun q : Nat => s.heap.size ≤ q) s s.heap := by
  have hnA : ∀ a : Nat, a < s.heap.size → ¬ (fun q : Nat => s.heap.size ≤ q) a := fun a h => Nat.not_le.mpr h
  have hf : ∀ w ∈ FLT, w.before #[Value.ref b] s = true := flat_of_before _ hgv
  obtain ⟨c0, i0, k0⟩ := u_known (C := RX0) (T := TX0) (N := 6) (n := 6) hts (fun w h => (lwi_wsX00 w h).1) (hts (.instantiable RX0 6) (List.mem_of_getElem? (i := 467) (by decide +kernel)))
  obtain ⟨c1, i1, k1⟩ := u_known (C := RX1) (T := TX1) (N := 17) (n := 17) hts (fun w h => (lwi_wsX10 w h).1) (hts (.instantiable RX1 17) (List.mem_of_getElem? (i := 202) (by decide +kernel)))
  obtain ⟨c2, i2, k2⟩ := u_known (C := RX2) (T := TX2) (N := 9) (n := 9) hts (fun w h => (lwi_wsX20 w h).1) (hts (.instantiable RX2 9) (List.mem_of_getElem? (i := 353) (by decide +kernel)))
  obtain ⟨c3, i3, k3⟩ := u_known (C := RX3) (T := TX3) (N := 2) (n := 2) hts (fun w h => (lwi_wsX30 w h).1) (hts (.instantiable RX3 2) (List.mem_of_getElem? (i := 399) (by decide +kernel)))
  obtain ⟨c4, i4, k4⟩ := u_known (C := RX4) (T := TX4) (N := 3) (n := 3) hts (fun w h => (lwi_wsX40 w h).1) (hts (.instantiable RX4 3) (List.mem_of_getElem? (i := 413) (by decide +kernel)))
  obtain ⟨c5, i5, k5⟩ := u_known (C := RX5) (T := TX5) (N := 15) (n := 15) hts (fun w h => (lwi_wsX50 w h).1) (hts (.instantiable RX5 15) (List.mem_of_getElem? (i := 145) (by decide +kernel)))
  obtain ⟨c6, i6, k6⟩ := u_known (C := RX6) (T := TX6) (N := 7) (n := 7) hts (fun w h => (lwi_wsX60 w h).1) (hts (.instantiable RX6 7) (List.mem_of_getElem? (i := 433) (by decide +kernel)))
  obtain ⟨c7, i7, k7⟩ := u_known (C := RX7) (T := TX7) (N := 7) (n := 7) hts (fun w h => (lwi_wsX70 w h).1) (hts (.instantiable RX7 7) (List.mem_of_getElem? (i := 208) (by decide +kernel)))
  obtain ⟨c8, i8, k8⟩ := u_known (C := RX8) (T := TX8) (N := 7) (n := 7) hts (fun w h => (lwi_wsX80 w h).1) (hts (.instantiable RX8 7) (List.mem_of_getElem? (i := 498) (by decide +kernel)))
  obtain ⟨c9, i9, k9⟩ := u_known (C := RX9) (T := TX9) (N := 15) (n := 15) hts (fun w h => (lwi_wsX90 w h).1) (hts (.instantiable RX9 15) (List.mem_of_getElem? (i := 137) (by decide +kernel)))
  obtain ⟨c10, i10, k10⟩ := u_known (C := RX10) (T := TX10) (N := 35) (n := 35) hts (fun w h => (lwi_wsX100 w h).1) (hts (.instantiable RX10 35) (List.mem_of_getElem? (i := 1254) (by decide +kernel)))
  obtain ⟨cI, aI1, aI2⟩ := arr_of (ty := .int) (hts (.arrayClass .int) (List.mem_of_getElem? (i := 199) (by decide +kernel)))
  obtain ⟨cJ, aJ1, aJ2⟩ := arr_of (ty := .long) (hts (.arrayClass .long) (List.mem_of_getElem? (i := 200) (by decide +kernel)))
  have hao := (hts (.arrayOver (.object "EveningVow$Night")) (List.mem_of_getElem? (i := 419) (by decide +kernel)))
  obtain ⟨comp, cN, kN, n1, -, n3, n4, n5⟩ := Cond.arrayOver_spec (args := #[Value.ref b]) (first := s) (o := none) (s := s) (idx := []) hao
  have hM : ∀ {M : List Cond} {ps : List Nat}, M = ps.filterMap (fun i => FLT[i]?) → ∀ w ∈ M, w.before #[Value.ref b] s = true := fun h w hw => hf w (mem_pl _ h w hw)
  obtain ⟨adK, adV, hS, hE⟩ := vk_Sof (args := #[Value.ref b]) (s := s) (N := 22) (tm := tmS) (len := SLn) (byt := SBy) (A := fun q : Nat => s.heap.size ≤ q) (by decide) (fun i hi => hM fs_ex _ (List.mem_map.mpr ⟨i, List.mem_range.mpr hi, rfl⟩)) (fun i hi => hM fs_co _ (List.mem_map.mpr ⟨i, List.mem_range.mpr hi, rfl⟩)) (fun i hi => hM fs_ar _ (List.mem_map.mpr ⟨i, List.mem_range.mpr hi, rfl⟩)) (fun i hi => hM fs_le _ (List.mem_map.mpr ⟨i, List.mem_range.mpr hi, rfl⟩))
    (fun i hi j hj => hM fs_el _ (List.mem_flatMap.mpr ⟨i, List.mem_range.mpr hi, List.mem_map.mpr ⟨j, List.mem_range.mpr hj, rfl⟩⟩))
    (fun i j hi hj hne => (prS_all i hi j hj hne).elim (fun h => Or.inl (hM fs_ne _ (List.mem_map.mpr ⟨(i, j), h, rfl⟩))) (fun h => Or.inr (hM fs_ne _ (List.mem_map.mpr ⟨(j, i), h, rfl⟩)))) hnA
  refine ⟨((fun k => [c0, c1, c2, c3, c4, c5, c6, c7, c8, c9, c10].getD k c0, fun k => [i0, i1, i2, i3, i4, i5, i6, i7, i8, i9, i10].getD k i0), cI, cJ, cN, adK, adV), ⟨⟨?_, ?_⟩, ⟨?_, ?_⟩, ?_⟩, ⟨hS, ?_, ?_⟩, ⟨?_, ?_, ?_⟩⟩
  · intro k q hq
    match k, hq with
    | 0, hq => cases hq; exact k0
    | 1, hq => cases hq; exact k1
    | 2, hq => cases hq; exact k2
    | 3, hq => cases hq; exact k3
    | 4, hq => cases hq; exact k4
    | 5, hq => cases hq; exact k5
    | 6, hq => cases hq; exact k6
    | 7, hq => cases hq; exact k7
    | 8, hq => cases hq; exact k8
    | 9, hq => cases hq; exact k9
    | 10, hq => cases hq; exact k10
    | k + 11, hq => simp [vwCl] at hq
  · intro k q hq
    match k, hq with
    | 0, hq => cases hq; exact ⟨aI1, aI2⟩
    | 1, hq => cases hq; exact ⟨aJ1, aJ2⟩
    | 2, hq => cases hq; exact ⟨fun n z => ⟨fun k h => (by cases h), kN, n3, comp, n4⟩, kN, comp, n3, n4, n1, n5⟩
    | k + 3, hq => simp at hq
  · intro q hq
    exact va_Nw.of rfl (hts _ (mem_pl _ fs_nest _ (List.mem_map.mpr ⟨q, hq, rfl⟩)))
  · exact va_AO.of hao
  · intro i hi
    exact vk_R.of (hts _ (mem_pl _ fs_sr _ (List.mem_map.mpr ⟨i, List.mem_range.mpr hi, rfl⟩))) (hE i hi)
  · exact va_Zof (hts (.laysStatic "java/lang/String" "COMPACT_STRINGS" "Z") (List.mem_of_getElem? (i := 1420) (by decide +kernel))) (hts (.initialized "java/lang/String") (List.mem_of_getElem? (i := 126) (by decide +kernel))) (va_eqt (z := 1) (hf _ (List.mem_of_getElem? (i := 6) (by decide +kernel)))) hnA
  · exact va_Zqof (hts (.laysStatic "jdk/internal/util/Preconditions" "SIOOBE_FORMATTER" "Ljava/util/function/BiFunction;") (List.mem_of_getElem? (i := 1436) (by decide +kernel))) (hts (.initialized "jdk/internal/util/Preconditions") (List.mem_of_getElem? (i := 128) (by decide +kernel))) (hf _ (List.mem_of_getElem? (i := 7) (by decide +kernel))) hnA
  · exact vx_Zqof (hts (.laysStatic "java/lang/Throwable" "UNASSIGNED_STACK" "[Ljava/lang/StackTraceElement;") (List.mem_of_getElem? (i := 1219) (by decide +kernel))) (hts (.initialized "java/lang/Throwable") (List.mem_of_getElem? (i := 132) (by decide +kernel))) (hf _ (List.mem_of_getElem? (i := 4) (by decide +kernel))) hnA
  · exact vx_Zqof (hts (.laysStatic "java/lang/Throwable" "SUPPRESSED_SENTINEL" "Ljava/util/List;") (List.mem_of_getElem? (i := 1221) (by decide +kernel))) (hts (.initialized "java/lang/Throwable") (List.mem_of_getElem? (i := 132) (by decide +kernel))) (hf _ (List.mem_of_getElem? (i := 5) (by decide +kernel))) hnA
  · intro w hw a
    simp only [ledB, List.mem_cons, List.not_mem_nil, or_false] at hw
    rcases hw with rfl | rfl | rfl | rfl
    · exact va_tabs (A := #[Value.ref b]) rfl rfl (hts (.declares (Bundle.init0 "java/lang/RuntimeException")) (List.mem_of_getElem? (i := 1195) (by decide +kernel)))
    · exact va_tabs (A := #[Value.ref b]) rfl rfl (hts (.declares (Bundle.init0 "java/lang/Exception")) (List.mem_of_getElem? (i := 1197) (by decide +kernel)))
    · exact va_tabs (A := #[Value.ref b]) rfl rfl (hts (.declares (Bundle.init0 "java/lang/Throwable")) (List.mem_of_getElem? (i := 1199) (by decide +kernel)))
    · exact va_tabs (A := #[Value.ref b]) rfl rfl (hts (.castable NSE NSE) (List.mem_of_getElem? (i := 1194) (by decide +kernel)))
