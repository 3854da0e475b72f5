/-! the start: both objects, the row for led's answer; then the loop -/
abbrev UX9 : Type := (Nat → Nat) × ((Nat → Nat)) × ((Nat → Nat) × (Nat → Nat)) × ((Nat → Nat) × (Nat → Nat)) × ((Nat → Nat)) × ((Nat → Nat)) × (Unit) × (Unit) × ((Nat → Nat) × (Nat → Nat) × (Nat → Nat → Nat)) × ((Nat → Nat) × (Nat → Nat) × (Nat → Nat → Nat) × (Nat → Nat)) × ((Nat → Nat) × (Nat → Nat)) × ((Nat → Nat) × (Nat → Nat) × (Nat → Nat)) × (Nat → Nat) × (Nat → Nat → Nat)
def SQ (u : UX9) : Nat → Nat → Nat := (va_up (va_up (va_up (va_up (va_up (va_up (va_up (va_up (va_up (va_up (va_up (va_up (va_up (va_up (va_up (va_up (fun _ _ => 0) 0 u.1) 1 u.2.1) 5 u.2.2.1.1) 15 u.2.2.1.2) 21 u.2.2.2.1.1) 31 u.2.2.2.1.2) 37 u.2.2.2.2.1) 41 u.2.2.2.2.2.1) 47 u.2.2.2.2.2.2.2.2.1.1) 48 u.2.2.2.2.2.2.2.2.2.1.1) 51 u.2.2.2.2.2.2.2.2.2.1.2.2.2) 55 u.2.2.2.2.2.2.2.2.2.2.1.1) 59 u.2.2.2.2.2.2.2.2.2.2.1.2) 63 u.2.2.2.2.2.2.2.2.2.2.2.1.1) 66 u.2.2.2.2.2.2.2.2.2.2.2.1.2.1) 70 u.2.2.2.2.2.2.2.2.2.2.2.1.2.2)
def SN (u : UX9) : Nat → Nat → Nat := (va_up (va_up (va_up (fun _ _ => 0) 0 u.2.2.2.2.2.2.2.2.1.2.1) 1 u.2.2.2.2.2.2.2.2.2.2.2.2.1) 2 u.2.2.2.2.2.2.2.2.2.1.2.1)
def SP (u : UX9) : Nat → Nat → Nat → Nat := (va_up (va_up (va_up (fun _ _ _ => 0) 0 u.2.2.2.2.2.2.2.2.1.2.2) 1 u.2.2.2.2.2.2.2.2.2.2.2.2.2) 2 u.2.2.2.2.2.2.2.2.2.1.2.2.1)
def SX : Nat → Nat → Int32 := (va_up (va_up (va_up (va_up (va_up (fun _ => zR) 1 (upd zR 3 (-1 : Int32))) 45 (upd zR 0 (0 : Int32))) 46 (upd zR 0 (1 : Int32))) 48 (upd zR 1 (61 : Int32))) 63 (upd zR 2 (-2 : Int32)))
def SM : Nat → Nat → Int32 := (va_up (fun _ => zR) 0 (upd zR 10 (-1 : Int32)))
theorem SI (n : Nat) : INV n SX (fun _ => 0) 0 (fun _ _ => zR) SM := ⟨rfl, ⟨0, by omega, rfl, rfl, fun i hi => absurd hi (Nat.not_lt_zero i)⟩, rfl, fun _ => rfl, rfl, rfl, Or.inr ⟨rfl, rfl, fun _ => rfl, fun _ => rfl, fun _ => rfl, rfl, rfl, rfl, rfl, rfl, rfl, rfl, rfl⟩⟩
theorem SB : TBs SX := fun T hT h i hi => by
  have e : (0 : Nat) = T := nI_inj (by omega) (by omega) ((show SX 1 1 = nI 0 from rfl).symm.trans h)
  omega
set_option maxHeartbeats 8000000 in
set_option maxRecDepth 100000 in
theorem SPM (g : GG) (q1 q2 q3 : Nat) (u : UX9) (w : Nat → Nat) : ([0, 1, 2, 3, 4, 5, 6, 7, 8, 9, 10, 11, 12, 13, 14, 15, 16, 17, 18, 19, 20, 21, 22, 23, 24, 25, 26, 27, 28, 29, 30, 31, 32, 33, 34, 35, 36, 37, 38, 39, 40, 41, 42, 43, 44, 45, 46, 47, 48, 49, 50, 51, 52, 53, 54, 55, 56, 57, 58, 59, 60, 61, 62, 63, 64, 65, 66, 67, 68, 69, 70, 71, 72, 73, 74, 75, 76, 77, 78, 79, 80, 81, 82, 83, 84, 85, 86, 87, 88, 89, 90, 91, 92, 93, 94, 95, 96, 97, 98, 99, 100, 101, 102, 103, 104, 105, 106, 107, 108, 109, 110, 111, 112, 113, 114, 162, 163, 164, 165, 166, 167, 168, 169, 170, 171, 172, 173, 115, 116, 117, 118, 119, 120, 121, 122, 123, 124, 125, 126, 127, 128, 129, 130, 131, 132, 133, 134, 135, 136, 137, 138, 139, 140, 141, 142, 143, 144, 145, 146, 147, 148, 149, 150, 151, 152, 153, 154, 155, 156, 157, 158, 159, 160, 161, 174, 175, 176, 177, 178, 179, 180, 181, 182, 183, 184, 185, 186, 187, 188] : List Nat).map (fun i => (((BX9 g q1 u ++ BX10 g q2 w) ++ [aJ g q3 1 (fun _ => 0)]) : va_W)[i]?) = (WLD g q1 q2 q3 (SQ u 0) (SQ u) (SN u) (SP u) w SX (fun _ => 0) 0 (fun _ _ => zR) SM (fun _ => 0)).map some := by
  rfl
set_option maxHeartbeats 8000000 in
set_option maxRecDepth 100000 in
theorem whole_start {p : Program} {e : Env} {s : State} {m : MethodId} {below : List Frame} {meth : Method} {c : Code} (l : Launch) (hlt : l.stackTraces = false) {b L : Nat} {xs : Nat → Int32} (hL : L ≤ 3072) (C0 : lw_At p s m meth c b L xs) : W p l e room_1 s m #[Value.ref b] below meth c s.heap [] 0 0 (lw_Z below #[Value.ref b] s) (entryFrame m ([Value.ref b] : List Value).toArray 7) := by
  obtain ⟨hx, hb, hr, hml, hown, hts0, hX, hbl, hlk, hgv⟩ := id C0
  obtain ⟨g, hK, hSW, hT⟩ := start_facts hts0 hgv
  have hown : s.vm.findClass RL = some m.cls := hown
  have hA : ∀ q : Nat, s.heap.size ≤ q → (fun q : Nat => s.heap.size ≤ q) q := fun _ h => h
  have hts : ∀ w ∈ wsL_law, w.before #[Value.ref b] s = true := fun w h => hts0 w (wsL_law_in w h)
  have C0 : Cx p s m #[Value.ref b] meth c cL_law 7 (some .boolean) RL wsL_law g (fun q : Nat => s.heap.size ≤ q) := ⟨hx, hb, hml, hown, hts, hr, hlk, hK, hA, hSW⟩
  have hS : va_S (fun q : Nat => s.heap.size ≤ q) s.heap s.heap [] := va_S.rf
  have hP : va_P g.1 vwCl [] s.heap := fun k q h => by simp at h
  have hD : va_D (fun q : Nat => s.heap.size ≤ q) [] := ⟨fun i j p q h => by simp at h, fun k q h => by simp at h⟩
  have hl := lv_entry ([.ref b]) (n := 7) (Nat.le_of_ble_eq_true rfl)
  rw [lg_entry_eq]
  generalize (lg_sl ([.ref b]) ++ List.replicate (7 - (lg_sl ([.ref b])).length) Slot.unset).toArray = ls at hl ⊢
  have hl : lv_has ls 7 [(0, .ref b)] := hl
  refine va_new (ci := 9) (fs := [.null, .null, .null, .int 0, .int 0, .null, .null, .null, .null, .null, .null, .int 0, .null, .null, .null]) (C := RX9) (T := TX9) (N := 15) hx hb hts0 (fun w h => (lwi_wsX90 w h).1) tyX9 tyX9_ok hown (hts0 (.classLink RL 8 RX9) (List.mem_of_getElem? (i := 136) (by decide +kernel))) (hts0 (.instantiable RX9 15) (List.mem_of_getElem? (i := 137) (by decide +kernel))) (hts0 (.initialized RX9) (List.mem_of_getElem? (i := 114) (by decide +kernel))) hK.1 hP hD hS hA rfl dvX9 (Nat.le_of_ble_eq_true rfl) (Nat.le_of_ble_eq_true rfl) dL_law_0 (fun q1 H hP hD hS => ?_)
  refine W.widen (k := 1) (n := 15) (Nat.le_of_ble_eq_true rfl) (Nat.le_of_ble_eq_true rfl) ?_
  refine lv_dup hx hb dL_law_3 rfl ?_
  refine call_cI (W0 := []) (As := []) (rest := [.ref q1]) C0 (mX9_init l g q1) (cwI 0 hts gL_law_X9_init rfl rfl rfl (hts0 (.initialized RX9) (List.mem_of_getElem? (i := 114) (by decide +kernel))) (hts0 (.methodLink RL 15 yX9_init) (List.mem_of_getElem? (i := 138) (by decide +kernel))) (hts0 (.instanceMethod yX9_init) (List.mem_of_getElem? (i := 139) (by decide +kernel))) rfl (by decide +kernel) ⟨Nat.le_of_ble_eq_true rfl, Nat.le_of_ble_eq_true rfl⟩) hP hD hS hl.1 rfl rfl (Nat.le_of_ble_eq_true rfl) ⟨Nat.le_of_ble_eq_true rfl, Nat.le_of_ble_eq_true rfl⟩ dL_law_4 ?_
  intro u H locs hP hD hS
  refine W.widen (k := 174) (n := 2329) (Nat.le_of_ble_eq_true rfl) (Nat.le_of_ble_eq_true rfl) ?_
  have hP : va_P g.1 vwCl (BX9 g q1 u) H := hP
  have hD : va_D (fun q : Nat => s.heap.size ≤ q) (BX9 g q1 u) := hD
  refine lv_astore_n (lv' := [(1, .ref q1), (0, .ref b)]) hx hb dL_law_7 rfl hl (by decide) rfl (fun ls hl => ?_)
  refine va_new (ci := 10) (fs := [.int 0, .null, .int 0, .int 0, .int 0, .int 0, .int 0, .int 0, .int 0, .int 0, .int 0, .int 0, .null, .int 0, .int 0, .null, .null, .null, .null, .null, .int 0, .int 0, .int 0, .int 0, .int 0, .null, .null, .null, .int 0, .int 0, .null, .null, .int 0, .null, .int 0]) (C := RX10) (T := TX10) (N := 35) hx hb hts0 (fun w h => (lwi_wsX100 w h).1) tyX10 tyX10_ok hown (hts0 (.classLink RL 16 RX10) (List.mem_of_getElem? (i := 1253) (by decide +kernel))) (hts0 (.instantiable RX10 35) (List.mem_of_getElem? (i := 1254) (by decide +kernel))) (hts0 (.initialized RX10) (List.mem_of_getElem? (i := 124) (by decide +kernel))) hK.1 hP hD hS hA rfl dvX10 (Nat.le_of_ble_eq_true rfl) (Nat.le_of_ble_eq_true rfl) dL_law_8 (fun q2 H hP hD hS => ?_)
  refine W.widen (k := 175) (n := 2364) (Nat.le_of_ble_eq_true rfl) (Nat.le_of_ble_eq_true rfl) ?_
  refine lv_dup hx hb dL_law_11 rfl ?_
  refine call_cI (W0 := (BX9 g q1 u)) (As := []) (rest := [.ref q2]) C0 (mX10_init l g q2) (cwI 0 hts gL_law_X10_init rfl rfl rfl (hts0 (.initialized RX10) (List.mem_of_getElem? (i := 124) (by decide +kernel))) (hts0 (.methodLink RL 18 yX10_init) (List.mem_of_getElem? (i := 1255) (by decide +kernel))) (hts0 (.instanceMethod yX10_init) (List.mem_of_getElem? (i := 1256) (by decide +kernel))) rfl (by decide +kernel) ⟨Nat.le_of_ble_eq_true rfl, Nat.le_of_ble_eq_true rfl⟩) hP hD hS hl.1 rfl rfl (Nat.le_of_ble_eq_true rfl) ⟨Nat.le_of_ble_eq_true rfl, Nat.le_of_ble_eq_true rfl⟩ dL_law_12 ?_
  intro w H locs hP hD hS
  refine W.widen (k := 188) (n := 4301) (Nat.le_of_ble_eq_true rfl) (Nat.le_of_ble_eq_true rfl) ?_
  refine lv_astore_n (lv' := [(2, .ref q2), (1, .ref q1), (0, .ref b)]) hx hb dL_law_15 rfl hl (by decide) rfl (fun ls hl => ?_)
  refine lv_iconst (v := 1) hx hb dL_law_16 (by decide) ?_
  refine newJ (N := 1) C0 (List.mem_of_getElem? (i := 6) rfl) hP hD hS (by decide) (by decide) (by decide) (Nat.le_of_ble_eq_true rfl) (Nat.le_of_ble_eq_true rfl) dL_law_17 (fun q3 H hP hD hS => ?_)
  refine W.widen (k := 189 + 0) (n := 4302 + 6 * 0) (Nat.le_of_ble_eq_true rfl) (Nat.le_of_ble_eq_true rfl) ?_
  refine lv_astore_n (lv' := [(3, .ref q3), (2, .ref q2), (1, .ref q1), (0, .ref b)]) hx hb dL_law_19 rfl hl (by decide) rfl (fun ls hl => ?_)
  refine lv_iconst (v := 0) hx hb dL_law_20 (by decide) ?_
  refine lv_istore (lv' := [(4, .int 0), (3, .ref q3), (2, .ref q2), (1, .ref q1), (0, .ref b)]) hx hb dL_law_21 hl (by decide) rfl (fun ls hl => ?_)
  have hl : lv_has ls 7 [(0, .ref b), (1, .ref q1), (2, .ref q2), (3, .ref q3), (4, .int (nI (6 * 0)))] := lv_sub hl [4, 3, 2, 1, 0] rfl
  have hP := hP.sub [0, 1, 2, 3, 4, 5, 6, 7, 8, 9, 10, 11, 12, 13, 14, 15, 16, 17, 18, 19, 20, 21, 22, 23, 24, 25, 26, 27, 28, 29, 30, 31, 32, 33, 34, 35, 36, 37, 38, 39, 40, 41, 42, 43, 44, 45, 46, 47, 48, 49, 50, 51, 52, 53, 54, 55, 56, 57, 58, 59, 60, 61, 62, 63, 64, 65, 66, 67, 68, 69, 70, 71, 72, 73, 74, 75, 76, 77, 78, 79, 80, 81, 82, 83, 84, 85, 86, 87, 88, 89, 90, 91, 92, 93, 94, 95, 96, 97, 98, 99, 100, 101, 102, 103, 104, 105, 106, 107, 108, 109, 110, 111, 112, 113, 114, 162, 163, 164, 165, 166, 167, 168, 169, 170, 171, 172, 173, 115, 116, 117, 118, 119, 120, 121, 122, 123, 124, 125, 126, 127, 128, 129, 130, 131, 132, 133, 134, 135, 136, 137, 138, 139, 140, 141, 142, 143, 144, 145, 146, 147, 148, 149, 150, 151, 152, 153, 154, 155, 156, 157, 158, 159, 160, 161, 174, 175, 176, 177, 178, 179, 180, 181, 182, 183, 184, 185, 186, 187, 188] (mfil (SPM g q1 q2 q3 u w))
  have hD := hD.sub [0, 1, 2, 3, 4, 5, 6, 7, 8, 9, 10, 11, 12, 13, 14, 15, 16, 17, 18, 19, 20, 21, 22, 23, 24, 25, 26, 27, 28, 29, 30, 31, 32, 33, 34, 35, 36, 37, 38, 39, 40, 41, 42, 43, 44, 45, 46, 47, 48, 49, 50, 51, 52, 53, 54, 55, 56, 57, 58, 59, 60, 61, 62, 63, 64, 65, 66, 67, 68, 69, 70, 71, 72, 73, 74, 75, 76, 77, 78, 79, 80, 81, 82, 83, 84, 85, 86, 87, 88, 89, 90, 91, 92, 93, 94, 95, 96, 97, 98, 99, 100, 101, 102, 103, 104, 105, 106, 107, 108, 109, 110, 111, 112, 113, 114, 162, 163, 164, 165, 166, 167, 168, 169, 170, 171, 172, 173, 115, 116, 117, 118, 119, 120, 121, 122, 123, 124, 125, 126, 127, 128, 129, 130, 131, 132, 133, 134, 135, 136, 137, 138, 139, 140, 141, 142, 143, 144, 145, 146, 147, 148, 149, 150, 151, 152, 153, 154, 155, 156, 157, 158, 159, 160, 161, 174, 175, 176, 177, 178, 179, 180, 181, 182, 183, 184, 185, 186, 187, 188] (by decide +kernel) (SPM g q1 q2 q3 u w)
  exact law_loop (n := 2000) hlt hT (Nat.le_refl _) hL C0 hX hbl 512 0 (by omega) (by omega) (SQ u) (SN u) (SP u) w SX (fun _ => 0) 0 (fun _ _ => zR) SM (fun _ => 0) H locs ls (SI 2000) SB hP hD hS hl
