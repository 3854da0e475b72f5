/-! the lines of the reader, class and reference together -/
theorem am8 {n L p : Nat} (hn : 1000 ≤ n) {tp mt : Nat → Int32} (ht : TAPE L tp mt) {o om lt : Nat → Int32} {c : Int64} (hS : ST L p o c om lt) : ∃ v v2 o' c' om' lt', fX5_takeAmount n 1668640883 0 4 o c tp = some (v, o', c') ∧ fX10_after n 8 0 4 om mt lt = some (v2, om', lt') ∧ ST L p o' c' om' lt' ∧ FO o o' ∧ FM om om' ∧ (om' 13 = 0 → om 13 = 0 ∧ v = v2 ∧ ∃ k, 0 ≤ k ∧ k ≤ 4 ∧ v = nI k) := amount_lock (i := 8) (lo := 0) (hi := 4) hn (by decide) (by decide) (by decide) (W := 1668640883) (by rw [Wc_8]; rfl) ht hS
theorem am9 {n L p : Nat} (hn : 1000 ≤ n) {tp mt : Nat → Int32} (ht : TAPE L tp mt) {o om lt : Nat → Int32} {c : Int64} (hS : ST L p o c om lt) : ∃ v v2 o' c' om' lt', fX5_takeAmount n 512735536499 1 30 o c tp = some (v, o', c') ∧ fX10_after n 9 1 30 om mt lt = some (v2, om', lt') ∧ ST L p o' c' om' lt' ∧ FO o o' ∧ FM om om' ∧ (om' 13 = 0 → om 13 = 0 ∧ v = v2 ∧ ∃ k, 1 ≤ k ∧ k ≤ 30 ∧ v = nI k) := amount_lock (i := 9) (lo := 1) (hi := 30) hn (by decide) (by decide) (by decide) (W := 512735536499) (by rw [Wc_9]; rfl) ht hS
theorem am10 {n L p : Nat} (hn : 1000 ≤ n) {tp mt : Nat → Int32} (ht : TAPE L tp mt) {o om lt : Nat → Int32} {c : Int64} (hS : ST L p o c om lt) : ∃ v v2 o' c' om' lt', fX5_takeAmount n 444301141350 0 40 o c tp = some (v, o', c') ∧ fX10_after n 10 0 40 om mt lt = some (v2, om', lt') ∧ ST L p o' c' om' lt' ∧ FO o o' ∧ FM om om' ∧ (om' 13 = 0 → om 13 = 0 ∧ v = v2 ∧ ∃ k, 0 ≤ k ∧ k ≤ 40 ∧ v = nI k) := amount_lock (i := 10) (lo := 0) (hi := 40) hn (by decide) (by decide) (by decide) (W := 444301141350) (by rw [Wc_10]; rfl) ht hS
theorem am15 {n L p : Nat} (hn : 1000 ≤ n) {tp mt : Nat → Int32} (ht : TAPE L tp mt) {o om lt : Nat → Int32} {c : Int64} (hS : ST L p o c om lt) : ∃ v v2 o' c' om' lt', fX5_takeAmount n 2002873972 1 99 o c tp = some (v, o', c') ∧ fX10_after n 15 1 99 om mt lt = some (v2, om', lt') ∧ ST L p o' c' om' lt' ∧ FO o o' ∧ FM om om' ∧ (om' 13 = 0 → om 13 = 0 ∧ v = v2 ∧ ∃ k, 1 ≤ k ∧ k ≤ 99 ∧ v = nI k) := amount_lock (i := 15) (lo := 1) (hi := 99) hn (by decide) (by decide) (by decide) (W := 2002873972) (by rw [Wc_15]; rfl) ht hS
theorem am16 {n L p : Nat} (hn : 1000 ≤ n) {tp mt : Nat → Int32} (ht : TAPE L tp mt) {o om lt : Nat → Int32} {c : Int64} (hS : ST L p o c om lt) : ∃ v v2 o' c' om' lt', fX5_takeAmount n 495690083187 0 20 o c tp = some (v, o', c') ∧ fX10_after n 16 0 20 om mt lt = some (v2, om', lt') ∧ ST L p o' c' om' lt' ∧ FO o o' ∧ FM om om' ∧ (om' 13 = 0 → om 13 = 0 ∧ v = v2 ∧ ∃ k, 0 ≤ k ∧ k ≤ 20 ∧ v = nI k) := amount_lock (i := 16) (lo := 0) (hi := 20) hn (by decide) (by decide) (by decide) (W := 495690083187) (by rw [Wc_16]; rfl) ht hS
theorem am17a {n L p : Nat} (hn : 1000 ≤ n) {tp mt : Nat → Int32} (ht : TAPE L tp mt) {o om lt : Nat → Int32} {c : Int64} (hS : ST L p o c om lt) : ∃ v v2 o' c' om' lt', fX5_takeAmount n 25209 1 20 o c tp = some (v, o', c') ∧ fX10_after n 17 1 20 om mt lt = some (v2, om', lt') ∧ ST L p o' c' om' lt' ∧ FO o o' ∧ FM om om' ∧ (om' 13 = 0 → om 13 = 0 ∧ v = v2 ∧ ∃ k, 1 ≤ k ∧ k ≤ 20 ∧ v = nI k) := amount_lock (i := 17) (lo := 1) (hi := 20) hn (by decide) (by decide) (by decide) (W := 25209) (by rw [Wc_17]; rfl) ht hS
theorem am17b {n L p : Nat} (hn : 1000 ≤ n) {tp mt : Nat → Int32} (ht : TAPE L tp mt) {o om lt : Nat → Int32} {c : Int64} (hS : ST L p o c om lt) : ∃ v v2 o' c' om' lt', fX5_takeAmount n 25209 0 30 o c tp = some (v, o', c') ∧ fX10_after n 17 0 30 om mt lt = some (v2, om', lt') ∧ ST L p o' c' om' lt' ∧ FO o o' ∧ FM om om' ∧ (om' 13 = 0 → om 13 = 0 ∧ v = v2 ∧ ∃ k, 0 ≤ k ∧ k ≤ 30 ∧ v = nI k) := amount_lock (i := 17) (lo := 0) (hi := 30) hn (by decide) (by decide) (by decide) (W := 25209) (by rw [Wc_17]; rfl) ht hS
theorem am18 {n L p : Nat} (hn : 1000 ≤ n) {tp mt : Nat → Int32} (ht : TAPE L tp mt) {o om lt : Nat → Int32} {c : Int64} (hS : ST L p o c om lt) : ∃ v v2 o' c' om' lt', fX5_takeAmount n 448546566771 1 3 o c tp = some (v, o', c') ∧ fX10_after n 18 1 3 om mt lt = some (v2, om', lt') ∧ ST L p o' c' om' lt' ∧ FO o o' ∧ FM om om' ∧ (om' 13 = 0 → om 13 = 0 ∧ v = v2 ∧ ∃ k, 1 ≤ k ∧ k ≤ 3 ∧ v = nI k) := amount_lock (i := 18) (lo := 1) (hi := 3) hn (by decide) (by decide) (by decide) (W := 448546566771) (by rw [Wc_18]; rfl) ht hS
theorem am19 {n L p : Nat} (hn : 1000 ≤ n) {tp mt : Nat → Int32} (ht : TAPE L tp mt) {o om lt : Nat → Int32} {c : Int64} (hS : ST L p o c om lt) : ∃ v v2 o' c' om' lt', fX5_takeAmount n 499985311091 0 30 o c tp = some (v, o', c') ∧ fX10_after n 19 0 30 om mt lt = some (v2, om', lt') ∧ ST L p o' c' om' lt' ∧ FO o o' ∧ FM om om' ∧ (om' 13 = 0 → om 13 = 0 ∧ v = v2 ∧ ∃ k, 0 ≤ k ∧ k ≤ 30 ∧ v = nI k) := amount_lock (i := 19) (lo := 0) (hi := 30) hn (by decide) (by decide) (by decide) (W := 499985311091) (by rw [Wc_19]; rfl) ht hS
theorem am20 {n L p : Nat} (hn : 1000 ≤ n) {tp mt : Nat → Int32} (ht : TAPE L tp mt) {o om lt : Nat → Int32} {c : Int64} (hS : ST L p o c om lt) : ∃ v v2 o' c' om' lt', fX5_takeAmount n 1885436275 1 99 o c tp = some (v, o', c') ∧ fX10_after n 20 1 99 om mt lt = some (v2, om', lt') ∧ ST L p o' c' om' lt' ∧ FO o o' ∧ FM om om' ∧ (om' 13 = 0 → om 13 = 0 ∧ v = v2 ∧ ∃ k, 1 ≤ k ∧ k ≤ 99 ∧ v = nI k) := amount_lock (i := 20) (lo := 1) (hi := 99) hn (by decide) (by decide) (by decide) (W := 1885436275) (by rw [Wc_20]; rfl) ht hS
theorem am21 {n L p : Nat} (hn : 1000 ≤ n) {tp mt : Nat → Int32} (ht : TAPE L tp mt) {o om lt : Nat → Int32} {c : Int64} (hS : ST L p o c om lt) : ∃ v v2 o' c' om' lt', fX5_takeAmount n 1752135026 0 30 o c tp = some (v, o', c') ∧ fX10_after n 21 0 30 om mt lt = some (v2, om', lt') ∧ ST L p o' c' om' lt' ∧ FO o o' ∧ FM om om' ∧ (om' 13 = 0 → om 13 = 0 ∧ v = v2 ∧ ∃ k, 0 ≤ k ∧ k ≤ 30 ∧ v = nI k) := amount_lock (i := 21) (lo := 0) (hi := 30) hn (by decide) (by decide) (by decide) (W := 1752135026) (by rw [Wc_21]; rfl) ht hS
theorem ST.l {L p : Nat} {o om lt : Nat → Int32} {c : Int64} (h : ST L p o c om lt) (q : om 13 = 0) : LIVE o om ∧ TOKR L p o c om lt := h.elim id (fun d => absurd (d.1.symm.trans q) (by decide))
theorem ST.d {L p : Nat} {o om lt : Nat → Int32} {c : Int64} (h : ST L p o c om lt) (q : ¬ om 13 = 0) : DEAD o om := h.elim (fun l => absurd l.1.1 q) id
theorem DEAD.n {o om : Nat → Int32} (h : DEAD o om) : ¬ om 13 = 0 := by rw [h.1]; decide
theorem FO.a10 {o o' : Nat → Int32} (h : FO o o') : o' 10 = o 10 := h 10 (by decide) (by decide) (by decide) (by decide) (by decide) (by decide)
theorem FO.a11 {o o' : Nat → Int32} (h : FO o o') : o' 11 = o 11 := h 11 (by decide) (by decide) (by decide) (by decide) (by decide) (by decide)
def FO2 (o o' : Nat → Int32) : Prop := ∀ k, k ≠ 2 → k ≠ 3 → k ≠ 5 → k ≠ 6 → k ≠ 7 → k ≠ 8 → k ≠ 10 → k ≠ 11 → o' k = o k
theorem FO.two {o o' : Nat → Int32} (h : FO o o') : FO2 o o' := fun k h1 h2 h3 h4 h5 h6 _ _ => h k h1 h2 h3 h4 h5 h6
theorem FO2.trans {a b c : Nat → Int32} (h : FO2 a b) (h' : FO2 b c) : FO2 a c := fun k h1 h2 h3 h4 h5 h6 h7 h8 => (h' k h1 h2 h3 h4 h5 h6 h7 h8).trans (h k h1 h2 h3 h4 h5 h6 h7 h8)
/-- where a reading stands: alive, with the house as both hold it, or dead with the fault -/
def RDS (L p : Nat) (H : Nat → Nat → Int32) (fr o : Nat → Int32) (c : Int64) (om lt : Nat → Int32) (Y : Nat → Int64) (f13 f14 : Nat → Int32) : Prop :=
  (LIVE o om ∧ TOKR L p o c om lt ∧ ∃ op G D T N S, o 10 = (if op = true then 1 else 0) ∧ o 11 = nI (G + T + N) ∧ NAM G T N Y f13 f14 fr ∧ RH op G D T N S H fr) ∨ DEAD o om
theorem TOKR.word {L p : Nat} {o om lt : Nat → Int32} {c : Int64} (h : TOKR L p o c om lt) : (o 5 = 1 ∧ om 6 = 2 ∧ ∃ z, 1 ≤ z ∧ z ≤ 8 ∧ om 8 = nI z ∧ LET lt 0 z ∧ c = lN (PKf lt 0 z)) ∨ (¬ o 5 = 1 ∧ ¬ om 6 = 2) := by
  obtain ⟨-, -, a, b, -, -, -, -, -, -, -, h12⟩ := h
  rcases h12 with ⟨z, z'⟩ | ⟨-, z | ⟨z, z', -⟩ | ⟨z, z'⟩ | ⟨z, z'⟩⟩
  · exact Or.inr ⟨by rw [z]; decide, by rw [z']; decide⟩
  · exact Or.inl z
  · exact Or.inr ⟨by rw [z]; decide, by rw [z']; decide⟩
  · exact Or.inr ⟨by rw [z]; decide, by rw [z']; decide⟩
  · exact Or.inr ⟨by rw [z]; decide, by rw [z']; decide⟩
theorem ev_lock {n L p : Nat} (hn : 1000 ≤ n) {tp mt : Nat → Int32} (ht : TAPE L tp mt) {H : Nat → Nat → Int32} {fr o om lt f13 f14 : Nat → Int32} {c : Int64} {Y : Nat → Int64} (hl : LIVE o om) (hT : TOKR L p o c om lt) (h11 : o 11 = nI 0) (hM : NAM 0 0 0 Y f13 f14 fr) (hH : RH false 0 0 0 0 0 H fr) :
    ∃ o1 c1, fX5_taken n 0 o c tp = some (0, o1, c1) ∧ ∃ o' c' h5 om' lt' fr', fX5_readEvening n o1 c1 tp (H 5) = some (o', c', h5) ∧ fX10_eveningLine n om mt lt fr = some (om', lt', fr') ∧ RDS L p (va_up H 5 h5) fr' o' c' om' lt' Y f13 f14 ∧ FO2 o o' ∧ FM om om' := by
  obtain ⟨o1, c1, om1, lt1, t1, -, t2, t3, t4, t5, t6, -⟩ := take_lock hn ht hl hT
  obtain ⟨v1, w1, o2, c2, om2, lt2, a1, a2, a3, a4, a5, a6⟩ := am8 hn ht (o := upd o1 10 1) (Or.inl ⟨show LIVE (upd o1 10 1) om1 from t3, show TOKR L p (upd o1 10 1) c1 om1 lt1 from t4⟩)
  obtain ⟨v2, w2, o3, c3, om3, lt3, b1, b2, b3, b4, b5, b6⟩ := am9 hn ht a3
  obtain ⟨v3, w3, o4, c4, om4, lt4, d1, d2, d3, d4, d5, d6⟩ := am10 hn ht b3
  have f := (a4.trans b4).trans d4
  refine ⟨o1, c1, t1 0, o4, c4, upd (upd (upd (H 5) 0 v1) 1 v2) 2 v3, om4, lt4, if om4 13 = 0 then upd (upd (upd fr 0 w1) 2 w3) 1 w2 else upd (upd fr 0 w1) 2 w3, ?_, ?_, ?_, ?_, ?_⟩
  · rw [fX5_readEvening, a1, ob3_ss, b1, ob3_ss, d1, ob3_ss]
  · rw [fX10_eveningLine]
    dsimp only [jn]
    rw [if_pos (show fr 1 ≤ 0 by rw [hH.2.1.2 rfl]; exact Int32.le_refl _), if_pos hl.1, t2, ob2_ss, a2, ob3_ss, b2, ob3_ss, d2, ob3_ss]
    by_cases q : om4 13 = 0
    · rw [if_pos q, if_pos q]
    · rw [if_neg q, if_neg q]
  · by_cases q : om4 13 = 0
    · rw [if_pos q]
      have q3 := d6 q
      have q2 := b6 q3.1
      have q1 := a6 q2.1
      obtain ⟨k3, k31, k32, k33⟩ := q3.2.2
      obtain ⟨k2, k21, k22, k23⟩ := q2.2.2
      obtain ⟨k1, k11, k12, k13⟩ := q1.2.2
      refine Or.inl ⟨(d3.l q).1, (d3.l q).2, true, 0, 0, 0, 0, 0, f.a10, f.a11.trans (t5.a11.trans h11), hM.cg (fun i h1 h2 => by rw [upd_n _ _ (by omega), upd_n _ _ (by omega), upd_n _ _ (by omega)]), hH.1, ⟨fun _ => ⟨q1.2.1, q2.2.1, q3.2.1, ⟨k1, k12, q1.2.1.symm.trans k13⟩, ⟨k2, k21, k22, q2.2.1.symm.trans k23⟩, ⟨k3, k32, q3.2.1.symm.trans k33⟩⟩, fun z => absurd z (by decide)⟩, fun _ h => absurd h (Nat.not_lt_zero _), hH.2.2.2.1.cg (by omega) (fun _ _ => rfl) (fun g hg => by rw [upd_n _ _ (by omega), upd_n _ _ (by omega), upd_n _ _ (by omega)]), hH.2.2.2.2.1.cg (fun _ _ => ⟨rfl, rfl, rfl⟩) (fun i h1 h2 => by rw [upd_n _ _ (by omega), upd_n _ _ (by omega), upd_n _ _ (by omega)]), fun _ h => absurd h (Nat.not_lt_zero _), fun _ h => absurd h (Nat.not_lt_zero _), fun _ h => absurd h (Nat.not_lt_zero _), fun z => absurd z (by decide)⟩
    · exact Or.inr (d3.d q)
  · exact fun k h2 h3 h5 h6 h7 h8 h10 h11 => (f k h2 h3 h5 h6 h7 h8).trans ((upd_n _ _ h10).trans (t5 k h2 h3 h5 h6 h7 h8))
  · exact ((t6.trans a5).trans b5).trans d5
theorem kind_lock {n L p : Nat} (hn : 1000 ≤ n) {tp mt : Nat → Int32} (ht : TAPE L tp mt) {o om lt : Nat → Int32} {c : Int64} (hS : ST L p o c om lt) :
    ∃ v o' c' om' lt', fX5_takeKind n o c tp = some (v, o', c') ∧ FO o o' ∧ FM om om' ∧ ((LIVE o' om' ∧ TOKR L p o' c' om' lt' ∧ om 13 = 0 ∧ fX10_next n om mt lt = some (om', lt') ∧ ((v = 0 ∧ fX10_isWord n 11 om lt = some 1) ∨ (v = 1 ∧ fX10_isWord n 11 om lt = some 0 ∧ fX10_isWord n 12 om lt = some 1) ∨ (v = 2 ∧ fX10_isWord n 11 om lt = some 0 ∧ fX10_isWord n 12 om lt = some 0 ∧ fX10_isWord n 13 om lt = some 1) ∨ (v = 3 ∧ fX10_isWord n 11 om lt = some 0 ∧ fX10_isWord n 12 om lt = some 0 ∧ fX10_isWord n 13 om lt = some 0 ∧ fX10_isWord n 14 om lt = some 1))) ∨ (DEAD o' om' ∧ lt' = lt ∧ fX10_isWord n 11 om lt = some 0 ∧ fX10_isWord n 12 om lt = some 0 ∧ fX10_isWord n 13 om lt = some 0 ∧ fX10_isWord n 14 om lt = some 0 ∧ fX10_wrong n 1 (om 4) om = some om')) := by
  rcases hS with ⟨hl, hT⟩ | hd
  · obtain ⟨o1, c1, om1, lt1, t1, -, t2, t3, t4, t5, t6, -⟩ := take_lock hn ht hl hT
    obtain ⟨d1, d2, d3⟩ := die (x := 1) (by decide) hT.at
    have dd : ¬ upd (upd o 2 1) 3 (o 6) 2 = 0 := d1.2.1
    rcases hT.word with ⟨h5, h6, z, z1, z2, z3, z4, z5⟩ | ⟨h5, h6⟩
    · have hk := kwS (n := n) (PKf.lt64 z4 z2) h5
      have iw : ∀ i, i < 22 → fX10_isWord n i om lt = some (if PKf lt 0 z = Wc i then 1 else 0) := fun i hi => isWordS (by omega) hi z2 hl.1 h6 z3 z4
      have go : ∀ v : Int32, kw (PKf lt 0 z) = v → ¬ v = -1 → fX5_takeKind n o c tp = some (v, o1, c1) := fun v e h => by
        rw [fX5_takeKind, z5, hk, ob1_ss, e, if_neg h, ← z5, t1, ob3_ss]
      by_cases p11 : PKf lt 0 z = Wc 11
      · exact ⟨0, o1, c1, om1, lt1, go 0 (by rw [kw, if_pos p11]) (by decide), t5, t6, Or.inl ⟨t3, t4, hl.1, t2, Or.inl ⟨rfl, by rw [iw 11 (by decide), if_pos p11]⟩⟩⟩
      by_cases p12 : PKf lt 0 z = Wc 12
      · exact ⟨1, o1, c1, om1, lt1, go 1 (by rw [kw, if_neg p11, if_pos p12]) (by decide), t5, t6, Or.inl ⟨t3, t4, hl.1, t2, Or.inr (Or.inl ⟨rfl, by rw [iw 11 (by decide), if_neg p11], by rw [iw 12 (by decide), if_pos p12]⟩)⟩⟩
      by_cases p13 : PKf lt 0 z = Wc 13
      · exact ⟨2, o1, c1, om1, lt1, go 2 (by rw [kw, if_neg p11, if_neg p12, if_pos p13]) (by decide), t5, t6, Or.inl ⟨t3, t4, hl.1, t2, Or.inr (Or.inr (Or.inl ⟨rfl, by rw [iw 11 (by decide), if_neg p11], by rw [iw 12 (by decide), if_neg p12], by rw [iw 13 (by decide), if_pos p13]⟩))⟩⟩
      by_cases p14 : PKf lt 0 z = Wc 14
      · exact ⟨3, o1, c1, om1, lt1, go 3 (by rw [kw, if_neg p11, if_neg p12, if_neg p13, if_pos p14]) (by decide), t5, t6, Or.inl ⟨t3, t4, hl.1, t2, Or.inr (Or.inr (Or.inr ⟨rfl, by rw [iw 11 (by decide), if_neg p11], by rw [iw 12 (by decide), if_neg p12], by rw [iw 13 (by decide), if_neg p13], by rw [iw 14 (by decide), if_pos p14]⟩))⟩⟩
      refine ⟨-1, _, c, _, lt, ?_, d2, d3, Or.inr ⟨d1, rfl, by rw [iw 11 (by decide), if_neg p11], by rw [iw 12 (by decide), if_neg p12], by rw [iw 13 (by decide), if_neg p13], by rw [iw 14 (by decide), if_neg p14], wrong_l hl.1⟩⟩
      rw [fX5_takeKind, z5, hk, ob1_ss, kw, if_neg p11, if_neg p12, if_neg p13, if_neg p14, if_pos rfl, fail_l hl.2.1, ob3_ss, taken_d dd, ob3_ss]
    · refine ⟨-1, _, c, _, lt, ?_, d2, d3, Or.inr ⟨d1, rfl, isWord_n h6, isWord_n h6, isWord_n h6, isWord_n h6, wrong_l hl.1⟩⟩
      rw [fX5_takeKind, kw_n h5, ob1_ss, if_pos rfl, fail_l hl.2.1, ob3_ss, taken_d dd, ob3_ss]
  · exact ⟨-1, o, c, om, lt, kind_d hd.2.1, FO.refl _, FM.refl _, Or.inr ⟨hd, rfl, isWord_d hd.1, isWord_d hd.1, isWord_d hd.1, isWord_d hd.1, wrong_d hd.1⟩⟩
theorem ix9 (G k : Nat) : (((9 : Int32) + ((4 : Int32) * nI G)) + nI k) = nI (9 + 4 * G + k) := by
  rw [show (9 : Int32) = nI 9 from rfl, show (4 : Int32) = nI 4 from rfl, mulI, addI, addI]
theorem ix9a (G : Nat) : ((9 : Int32) + ((4 : Int32) * nI G)) = nI (9 + 4 * G) := by
  rw [show (9 : Int32) = nI 9 from rfl, show (4 : Int32) = nI 4 from rfl, mulI, addI]
theorem ix9b (G : Nat) : nI (9 + 4 * G) + 1 = nI (9 + 4 * G + 1) := sI _
theorem ix9c (G : Nat) : nI (9 + 4 * G) + 2 = nI (9 + 4 * G + 2) := by rw [show (2 : Int32) = nI 2 from rfl, addI]
theorem ix9d (G : Nat) : nI (9 + 4 * G) + 3 = nI (9 + 4 * G + 3) := by rw [show (3 : Int32) = nI 3 from rfl, addI]
/-- what a fresh slot of a name needs, once the rest of the house is written -/
theorem LET.cg {f g : Nat → Int32} {s z : Nat} (h : LET f s z) (e : ∀ i, i < z → g (s + i) = f (s + i)) : LET g s z := fun i hi => by
  obtain ⟨b, b1, b2, b3⟩ := h i hi
  exact ⟨b, b1, b2, (e i hi).trans b3⟩
theorem gu_lock {n L p G D T N S : Nat} (hn : 1000 ≤ n) {tp mt : Nat → Int32} (ht : TAPE L tp mt) {H : Nat → Nat → Int32} {fr o om lt f13 f14 : Nat → Int32} {c : Int64} {Y : Nat → Int64} (hl : LIVE o om) (hT : TOKR L p o c om lt) (h10 : o 10 = 1) (h11 : o 11 = nI (G + T + N)) (hM : NAM G T N Y f13 f14 fr) (hH : RH true G D T N S H fr) (hG : G < 7) :
    ∃ o' c' Y' a13 a14 h5 h6 h7 h8 h9 om' lt' fr', fX5_readGuest n o c tp Y f13 f14 (H 5) (H 6) (H 7) (H 8) (H 9) = some (o', c', Y', a13, a14, h5, h6, h7, h8, h9) ∧ fX10_guestLine n om mt lt fr = some (om', lt', fr') ∧ RDS L p (va_up (va_up (va_up (va_up (va_up H 5 h5) 6 h6) 7 h7) 8 h8) 9 h9) fr' o' c' om' lt' Y' a13 a14 ∧ FO2 o o' ∧ FM om om' := by
  obtain ⟨⟨c1, c2, c3, c4, c5, c6, c7, c8, c9, c10, c11, c12, c13, c14, c15, c16⟩, hE, hg, hp, hw, htl, hnd, hsi, -⟩ := hH
  obtain ⟨o1, y1, Y', a13, a14, om1, lt1, fr1, e1, e2, e3, e4, e5, -, e7⟩ := newname_lock (s := G) hn ht hM h11 (by omega) (by omega) 1 (nI G) (Or.inl ⟨hl, hT⟩)
  obtain ⟨v, o2, y2, om2, lt2, k1, k2, k3, k4⟩ := kind_lock hn ht e3
  have kc : ¬ ((nI G : Int32) < 0 ∨ 7 ≤ (nI G : Int32).toNatClampNeg) := ckI hG (by omega)
  rcases k4 with ⟨l1, l2, l3, l4, l5⟩ | ⟨l1, l2, l3, l4, l5, l6, l7⟩
  · obtain ⟨v2, w2, o3, y3, om3, lt3, a1, a2, a3, a4, a5, a6⟩ := am15 hn ht (Or.inl ⟨l1, l2⟩)
    obtain ⟨v3, w3, o4, y4, om4, lt4, b1, b2, b3, b4, b5, b6⟩ := am16 hn ht a3
    have cl : fX5_readGuest n o c tp Y f13 f14 (H 5) (H 6) (H 7) (H 8) (H 9) = some (o4, y4, Y', a13, a14, upd (H 5) 3 (nI (G + 1)), upd (H 6) G v, upd (H 7) G v2, upd (H 8) G v3, upd (H 9) G (-2)) := by
      rw [fX5_readGuest, c6, e1, ob5_ss, k1, ob3_ss, if_neg kc, a1, ob3_ss, if_neg kc, b1, ob3_ss, if_neg kc, if_neg kc, clI (by omega), sI]
    have rf : fX10_guestLine n om mt lt fr = some (om4, lt4, if om4 13 = 0 then upd (upd (upd (upd fr1 (9 + 4 * G) v) (9 + 4 * G + 1) w2) (9 + 4 * G + 2) w3) 3 ((upd (upd (upd fr1 (9 + 4 * G) v) (9 + 4 * G + 1) w2) (9 + 4 * G + 2) w3) 3 + 1) else upd (upd (upd fr1 (9 + 4 * G) v) (9 + 4 * G + 1) w2) (9 + 4 * G + 2) w3) := by
      rw [fX10_guestLine, if_pos hl.1, c7, e2, ob3_ss]
      rcases l5 with ⟨rfl, u1⟩ | ⟨rfl, u1, u2⟩ | ⟨rfl, u1, u2, u3⟩ | ⟨rfl, u1, u2, u3, u4⟩
      · rw [u1, ob1_ss, if_neg i10]
        dsimp only [jn]
        rw [if_pos l3, l4, ob2_ss, ix9a, if_neg (ckI (by omega) (by omega)), a2, ob3_ss, ix9b, if_neg (ckI (by omega) (by omega)), b2, ob3_ss, ix9c, if_neg (ckI (by omega) (by omega)), clI (by omega), clI (by omega), clI (by omega)]
        by_cases q : om4 13 = 0
        · rw [if_pos q, if_pos q]
        · rw [if_neg q, if_neg q]
      · rw [u1, ob1_ss, if_pos i00, u2, ob1_ss, if_neg i10]
        dsimp only [jn]
        rw [if_pos l3, l4, ob2_ss, ix9a, if_neg (ckI (by omega) (by omega)), a2, ob3_ss, ix9b, if_neg (ckI (by omega) (by omega)), b2, ob3_ss, ix9c, if_neg (ckI (by omega) (by omega)), clI (by omega), clI (by omega), clI (by omega)]
        by_cases q : om4 13 = 0
        · rw [if_pos q, if_pos q]
        · rw [if_neg q, if_neg q]
      · rw [u1, ob1_ss, if_pos i00, u2, ob1_ss, if_pos i00, u3, ob1_ss, if_neg i10]
        dsimp only [jn]
        rw [if_pos l3, l4, ob2_ss, ix9a, if_neg (ckI (by omega) (by omega)), a2, ob3_ss, ix9b, if_neg (ckI (by omega) (by omega)), b2, ob3_ss, ix9c, if_neg (ckI (by omega) (by omega)), clI (by omega), clI (by omega), clI (by omega)]
        by_cases q : om4 13 = 0
        · rw [if_pos q, if_pos q]
        · rw [if_neg q, if_neg q]
      · rw [u1, ob1_ss, if_pos i00, u2, ob1_ss, if_pos i00, u3, ob1_ss, if_pos i00, u4, ob1_ss, if_neg i10]
        dsimp only [jn]
        rw [if_pos l3, l4, ob2_ss, ix9a, if_neg (ckI (by omega) (by omega)), a2, ob3_ss, ix9b, if_neg (ckI (by omega) (by omega)), b2, ob3_ss, ix9c, if_neg (ckI (by omega) (by omega)), clI (by omega), clI (by omega), clI (by omega)]
        by_cases q : om4 13 = 0
        · rw [if_pos q, if_pos q]
        · rw [if_neg q, if_neg q]
    have f := (k2.trans a4).trans b4
    refine ⟨_, _, _, _, _, _, _, _, _, _, _, _, _, cl, rf, ?_, fun k h2 h3 h5 h6 h7 h8 h10 h11 => (f k h2 h3 h5 h6 h7 h8).trans (e4 k h11 h2 h3 h5 h6 h7 h8), ((e5.trans k3).trans a5).trans b5⟩
    by_cases q : om4 13 = 0
    · rw [if_pos q]
      have q3 := b6 q
      have q2 := a6 q3.1
      obtain ⟨kk3, k31, k32, k33⟩ := q3.2.2
      obtain ⟨kk2, k21, k22, k23⟩ := q2.2.2
      obtain ⟨-, m1, z, P, m2, m3, m4, m5, m6, m7, m8, m9, m10, m11⟩ := e7 l3
      have F2 : ∀ i, 122 ≤ i → upd (upd (upd (upd fr1 (9 + 4 * G) v) (9 + 4 * G + 1) w2) (9 + 4 * G + 2) w3) 3 ((upd (upd (upd fr1 (9 + 4 * G) v) (9 + 4 * G + 1) w2) (9 + 4 * G + 2) w3) 3 + 1) i = fr1 i := fun i hi => by
        rw [upd_n _ _ (by omega), upd_n _ _ (by omega), upd_n _ _ (by omega), upd_n _ _ (by omega)]
      have F : ∀ i, i < 122 → i ≠ 3 → (i < 9 + 4 * G ∨ 9 + 4 * G + 3 ≤ i) → upd (upd (upd (upd fr1 (9 + 4 * G) v) (9 + 4 * G + 1) w2) (9 + 4 * G + 2) w3) 3 ((upd (upd (upd fr1 (9 + 4 * G) v) (9 + 4 * G + 1) w2) (9 + 4 * G + 2) w3) 3 + 1) i = fr i := fun i hi h3 h9 => by
        rw [upd_n _ _ (by omega), upd_n _ _ (by omega), upd_n _ _ (by omega), upd_n _ _ (by omega)]
        exact m11 i (by omega) (by omega)
      have F3 : upd (upd (upd (upd fr1 (9 + 4 * G) v) (9 + 4 * G + 1) w2) (9 + 4 * G + 2) w3) 3 ((upd (upd (upd fr1 (9 + 4 * G) v) (9 + 4 * G + 1) w2) (9 + 4 * G + 2) w3) 3 + 1) 3 = nI (G + 1) := by
        rw [upd_s, upd_n _ _ (by omega), upd_n _ _ (by omega), upd_n _ _ (by omega), m11 3 (by omega) (by omega), c7, sI]
      have Fa : upd (upd (upd (upd fr1 (9 + 4 * G) v) (9 + 4 * G + 1) w2) (9 + 4 * G + 2) w3) 3 ((upd (upd (upd fr1 (9 + 4 * G) v) (9 + 4 * G + 1) w2) (9 + 4 * G + 2) w3) 3 + 1) (9 + 4 * G) = v := by
        rw [upd_n _ _ (by omega), upd_n _ _ (by omega), upd_n _ _ (by omega), upd_s]
      have Fb : upd (upd (upd (upd fr1 (9 + 4 * G) v) (9 + 4 * G + 1) w2) (9 + 4 * G + 2) w3) 3 ((upd (upd (upd fr1 (9 + 4 * G) v) (9 + 4 * G + 1) w2) (9 + 4 * G + 2) w3) 3 + 1) (9 + 4 * G + 1) = w2 := by
        rw [upd_n _ _ (by omega), upd_n _ _ (by omega), upd_s]
      have Fc : upd (upd (upd (upd fr1 (9 + 4 * G) v) (9 + 4 * G + 1) w2) (9 + 4 * G + 2) w3) 3 ((upd (upd (upd fr1 (9 + 4 * G) v) (9 + 4 * G + 1) w2) (9 + 4 * G + 2) w3) 3 + 1) (9 + 4 * G + 2) = w3 := by
        rw [upd_n _ _ (by omega), upd_s]
      generalize upd (upd (upd (upd fr1 (9 + 4 * G) v) (9 + 4 * G + 1) w2) (9 + 4 * G + 2) w3) 3 ((upd (upd (upd fr1 (9 + 4 * G) v) (9 + 4 * G + 1) w2) (9 + 4 * G + 2) w3) 3 + 1) = fr' at F F2 F3 Fa Fb Fc ⊢
      have es : slL G = 1 := by rw [slL, if_pos hG]
      have en : slN G = nI G := by rw [slN, if_pos hG]
      have hN := hM.add (G' := G + 1) (T' := T) (N' := N) (s := G) (fr' := fr') (by omega) c3 c4 (by omega) (by omega) (fun t h => by unfold usd; omega) (by unfold usd; omega) m2 m3 ((F2 _ (by omega)).trans m4) (m5.cg (fun i _ => F2 _ (by omega))) ((PKf.cg (fun i _ => F2 _ (by omega))).trans m6) m7 (fun i h1 h2 h3 h4 => (F2 i h1).trans (m11 i h3 h4))
      rw [es, en, ← m8, ← m9, ← m10] at hN
      refine Or.inl ⟨(b3.l q).1, (b3.l q).2, true, G + 1, D, T, N, S, f.a10.trans ((e4 10 (by decide) (by decide) (by decide) (by decide) (by decide) (by decide) (by decide)).trans h10), f.a11.trans (m1.trans (congrArg nI (by omega))), hN, ⟨by omega, c2, c3, c4, c5, rfl, F3, c8, (F 5 (by omega) (by omega) (by omega)).trans c9, c10, (F 6 (by omega) (by omega) (by omega)).trans c11, c12, (F 7 (by omega) (by omega) (by omega)).trans c13, c14, (F 8 (by omega) (by omega) (by omega)).trans c15, c16.trans (F 4 (by omega) (by omega) (by omega)).symm⟩, hE.cg rfl rfl rfl (fun i hi => F i (by omega) (by omega) (by omega)), hg.add (fun g hg => ⟨upd_n _ _ (by omega), upd_n _ _ (by omega), upd_n _ _ (by omega)⟩) (fun g hg j hj => F _ (by omega) (by omega) (by omega)) ⟨(upd_s _ _ _).trans Fa.symm, (upd_s _ _ _).trans (q2.2.1.trans Fb.symm), (upd_s _ _ _).trans (q3.2.1.trans Fc.symm), ⟨kk2, k21, k22, Fb.trans (q2.2.1.symm.trans k23)⟩, ⟨kk3, k32, Fc.trans (q3.2.1.symm.trans k33)⟩⟩, hp.add hG (fun g hg => upd_n _ _ (by omega)) (upd_s _ _ _) (fun g hg => F _ (by omega) (by omega) (by omega)), (hw.cg (fun _ _ => ⟨rfl, rfl, rfl⟩) (fun i h1 h2 => F i (by omega) (by omega) (by omega))).mono (by omega), htl.cg c3 (fun _ _ => ⟨rfl, rfl⟩) (fun i h1 h2 => F i (by omega) (by omega) (by omega)), hnd.cg c4 (fun _ _ => ⟨rfl, rfl⟩) (fun i h1 h2 => F i (by omega) (by omega) (by omega)), (hsi.cg c5 (fun _ _ => ⟨rfl, rfl, rfl⟩) (fun i h1 h2 => F i (by omega) (by omega) (by omega))).mono (by omega), fun z => absurd z (by decide)⟩
    · exact Or.inr (b3.d q)
  · have cl : fX5_readGuest n o c tp Y f13 f14 (H 5) (H 6) (H 7) (H 8) (H 9) = some (o2, y2, Y', a13, a14, upd (H 5) 3 (nI (G + 1)), upd (H 6) G v, upd (H 7) G (-1), upd (H 8) G (-1), upd (H 9) G (-2)) := by
      rw [fX5_readGuest, c6, e1, ob5_ss, k1, ob3_ss, if_neg kc, amt_d l1.2.1, ob3_ss, if_neg kc, amt_d l1.2.1, ob3_ss, if_neg kc, if_neg kc, clI (by omega), sI]
    have rf : fX10_guestLine n om mt lt fr = some (om2, lt1, fr1) := by
      rw [fX10_guestLine, if_pos hl.1, c7, e2, ob3_ss, l3, ob1_ss, if_pos i00, l4, ob1_ss, if_pos i00, l5, ob1_ss, if_pos i00, l6, ob1_ss, if_pos i00]
      dsimp only [jn]
      rw [l7, ob1_ss, if_neg l1.n]
    exact ⟨_, _, _, _, _, _, _, _, _, _, _, _, _, cl, rf, Or.inr l1, fun k h2 h3 h5 h6 h7 h8 h10 h11 => (k2 k h2 h3 h5 h6 h7 h8).trans (e4 k h11 h2 h3 h5 h6 h7 h8), e5.trans k3⟩
