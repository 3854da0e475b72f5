/-! the calls about the unseen cup -/

theorem ok_ways {n : Nat} (hn : 2000 ≤ n) {X : Nat → Nat → Int32} {Y : Nat → Int64} {c : Int64} {P : Nat → Nat → Nat → Int32} {M : Nat → Nat → Int32} (hI : INV n X Y c P M) : ∃ r y0 y45 y63 y64 y65 y66 y67 y68 y69 y70 y71 y72 y73 z0 z25 z33, fX9_ways n (X 0) (X 5) (X 6) (X 7) (X 8) (X 9) (X 10) (X 11) (X 12) (X 15) (X 18) (X 19) (X 20) (X 45) (X 63) (X 64) (X 65) (X 66) (X 67) (X 68) (X 69) (X 70) (X 71) (X 72) (X 73) = some (r, y0, y45, y63, y64, y65, y66, y67, y68, y69, y70, y71, y72, y73) ∧ fX10_ways n (M 0) (M 15) (M 25) (M 33) = some (r, z0, z25, z33) ∧ INV n (va_up (va_up (va_up (va_up (va_up (va_up (va_up (va_up (va_up (va_up (va_up (va_up (va_up X 0 y0) 45 y45) 63 y63) 64 y64) 65 y65) 66 y66) 67 y67) 68 y68) 69 y69) 70 y70) 71 y71) 72 y72) 73 y73) Y c P (va_up (va_up (va_up M 0 z0) 25 z25) 33 z33) := by
  rcases hI.gate with ⟨G, D, T, N, S, hB⟩ | ⟨b1, b2, -, -⟩
  · have b1 := hB.1
    have b2 : upd (upd (M 0) 0 0) 11 0 14 = 1 := hB.2.1
    obtain ⟨hCT, hCS, hCU⟩ := (hB.more hI).2.2
    obtain ⟨o', f3', f4', b1_, b2_, b3_, b4_, q1, q2, q3, q4, s1, s2, s3⟩ := searchU (n := n) (by omega) hB (f4 := X 65) (bo := X 66) (bw := X 67) (bl := X 68) (bv := X 69) (t0 := X 70) (tw := X 71) (tl := X 72) (tv := X 73) hCU
    obtain ⟨w, hw, w1, w2⟩ := (s2.2 s3).1
    obtain ⟨om', tr', wc', e1, e2, e3⟩ := w2 (upd (upd (M 0) 0 0) 11 0) (M 25) (M 33)
    have fr : ∀ k, k ≤ 21 → om' k = upd (upd (M 0) 0 0) 11 0 k := fun k hk => e2 k (by omega)
    exact ⟨(nI w), (upd (X 0) 4 0), (X 45), o', f3', f4', b1_, b2_, b3_, b4_, q1, q2, q3, q4, om', tr', wc',
      by rw [fX9_ways, asked_y b1, ob2_ss, if_neg i10, s1, ob12_ss, w1],
      by rw [fX10_ways, goodS, ob1_ss, b2, if_neg i10, e1, ob4_ss],
      hI.anewt hB 0 (by decide) (ml_up (by decide) (ml_up (by decide) (ml_up (by decide) (ml_up (by decide) (ml_up (by decide) (ml_up (by decide) (ml_up (by decide) (ml_up (by decide) (ml_up (by decide) (ml_up (by decide) (ml_up (by decide) (ml_up (by decide) (ml_up (by decide) (fun _ _ => rfl)))))))))))))) rfl rfl rfl rfl rfl ⟨rfl, rfl, rfl, rfl, rfl⟩ fr ⟨rfl, rfl, rfl, rfl⟩ ⟨rfl, rfl, rfl, rfl, rfl, rfl⟩ ⟨hCT, hCS, s2⟩⟩
  · have b2 : upd (upd (M 0) 0 0) 11 0 14 = 0 := b2
    exact ⟨(-1), (upd (X 0) 4 1), (X 45), (X 63), (X 64), (X 65), (X 66), (X 67), (X 68), (X 69), (X 70), (X 71), (X 72), (X 73), (upd (upd (upd (M 0) 0 0) 11 0) 11 1), (M 25), (M 33),
      by rw [fX9_ways, asked_n b1, ob2_ss, if_pos i00],
      by rw [fX10_ways, goodS, ob1_ss, b2, if_pos i00, noS, ob2_ss],
      hI.askF 1 (by decide) rfl rfl rfl (core_up (by decide) (core_up (by decide) (core_up (by decide) (core_up (by decide) (core_up (by decide) (core_up (by decide) (core_up (by decide) (core_up (by decide) (core_up (by decide) (core_eq rfl (core_eq rfl (core_up (by decide) (core_up (by decide) (fun _ _ => rfl)))))))))))))) rfl rfl ⟨rfl, rfl, rfl, rfl, rfl⟩ (fun k _ => congrFun (updupd _ _ _ _) k)⟩

theorem ok_wayAt {n : Nat} (hn : 2000 ≤ n) {X : Nat → Nat → Int32} {Y : Nat → Int64} {c : Int64} {P : Nat → Nat → Nat → Int32} {M : Nat → Nat → Int32} (hI : INV n X Y c P M) (x1 : Int32) : ∃ r y0 y45 y63 y64 y65 y66 y67 y68 y69 y70 y71 y72 y73 z0 z25 z33, fX9_wayAt n x1 (X 0) (X 5) (X 6) (X 7) (X 8) (X 9) (X 10) (X 11) (X 12) (X 15) (X 18) (X 19) (X 20) (X 45) (X 63) (X 64) (X 65) (X 66) (X 67) (X 68) (X 69) (X 70) (X 71) (X 72) (X 73) = some (r, y0, y45, y63, y64, y65, y66, y67, y68, y69, y70, y71, y72, y73) ∧ fX10_wayAt n x1 (M 0) (M 15) (M 25) (M 33) = some (r, z0, z25, z33) ∧ INV n (va_up (va_up (va_up (va_up (va_up (va_up (va_up (va_up (va_up (va_up (va_up (va_up (va_up X 0 y0) 45 y45) 63 y63) 64 y64) 65 y65) 66 y66) 67 y67) 68 y68) 69 y69) 70 y70) 71 y71) 72 y72) 73 y73) Y c P (va_up (va_up (va_up M 0 z0) 25 z25) 33 z33) := by
  rcases hI.gate with ⟨G, D, T, N, S, hB⟩ | ⟨b1, b2, -, -⟩
  · have b1 := hB.1
    have b2 : upd (upd (M 0) 0 0) 11 0 14 = 1 := hB.2.1
    obtain ⟨hCT, hCS, hCU⟩ := (hB.more hI).2.2
    obtain ⟨o', f3', f4', b1_, b2_, b3_, b4_, q1, q2, q3, q4, s1, s2, s3⟩ := searchU (n := n) (by omega) hB (f4 := X 65) (bo := X 66) (bw := X 67) (bl := X 68) (bv := X 69) (t0 := X 70) (tw := X 71) (tl := X 72) (tv := X 73) hCU
    obtain ⟨w, hw, w1, w2⟩ := (s2.2 s3).1
    obtain ⟨om', tr', wc', e1, e2, e3⟩ := w2 (upd (upd (M 0) 0 0) 11 0) (M 25) (M 33)
    have fr : ∀ k, k ≤ 21 → om' k = upd (upd (M 0) 0 0) 11 0 k := fun k hk => e2 k (by omega)
    rcases ixs x1 (v := w) (by omega) with ⟨k, hk, ex⟩ | hx
    · subst ex
      have iy : fX10_in n (nI k) 0 (nI w - 1) = some 1 := by
        obtain ⟨w', rfl⟩ : ∃ w', w = w' + 1 := ⟨w - 1, by omega⟩
        rw [nI_pred, fX10_in, if_neg (nI_pos (by omega)), if_neg (nI_nlt (by omega) (by omega))]
      exact ⟨(f3' k), (upd (X 0) 4 0), (X 45), o', f3', f4', b1_, b2_, b3_, b4_, q1, q2, q3, q4, om', tr', wc',
        by rw [fX9_wayAt, asked_y b1, ob2_ss, if_neg i10, s1, ob12_ss, if_neg (nI_pos (by omega)), w1, if_pos (nI_lt (by omega) (by omega)), if_neg (ckI (by omega) (by omega)), clI (by omega)],
        by rw [fX10_wayAt, goodS, ob1_ss, b2, if_neg i10, e1, ob4_ss, iy, ob1_ss, if_neg i10, if_neg (ckI (by omega) (by omega)), clI (by omega), e3 k hk],
        hI.anewt hB 0 (by decide) (ml_up (by decide) (ml_up (by decide) (ml_up (by decide) (ml_up (by decide) (ml_up (by decide) (ml_up (by decide) (ml_up (by decide) (ml_up (by decide) (ml_up (by decide) (ml_up (by decide) (ml_up (by decide) (ml_up (by decide) (ml_up (by decide) (fun _ _ => rfl)))))))))))))) rfl rfl rfl rfl rfl ⟨rfl, rfl, rfl, rfl, rfl⟩ fr ⟨rfl, rfl, rfl, rfl⟩ ⟨rfl, rfl, rfl, rfl, rfl, rfl⟩ ⟨hCT, hCS, s2⟩⟩
    · have fr1 : ∀ k, k ≤ 21 → upd om' 11 1 k = upd (upd (M 0) 0 0) 11 1 k := fun k hk => by
        by_cases q : k = 11
        · subst q; rw [upd_s, upd_s]
        · rw [upd_n _ _ q, fr k hk, upd_n _ _ q, upd_n _ _ q]
      rcases hx with z | ⟨z, z2⟩
      · exact ⟨(-1), (upd (upd (X 0) 4 0) 4 1), (X 45), o', f3', f4', b1_, b2_, b3_, b4_, q1, q2, q3, q4, (upd om' 11 1), tr', wc',
          by rw [fX9_wayAt, asked_y b1, ob2_ss, if_neg i10, s1, ob12_ss, if_pos z, refuseS, ob2_ss],
          by rw [fX10_wayAt, goodS, ob1_ss, b2, if_neg i10, e1, ob4_ss, in_n (by omega) (Or.inl z), ob1_ss, if_pos i00, noS, ob2_ss],
          hI.anewt hB 1 (by decide) (ml_up (by decide) (ml_up (by decide) (ml_up (by decide) (ml_up (by decide) (ml_up (by decide) (ml_up (by decide) (ml_up (by decide) (ml_up (by decide) (ml_up (by decide) (ml_up (by decide) (ml_up (by decide) (ml_up (by decide) (ml_up (by decide) (fun _ _ => rfl)))))))))))))) rfl rfl rfl rfl rfl ⟨rfl, rfl, rfl, rfl, rfl⟩ fr1 ⟨rfl, rfl, rfl, rfl⟩ ⟨rfl, rfl, rfl, rfl, rfl, rfl⟩ ⟨hCT, hCS, s2⟩⟩
      · exact ⟨(-1), (upd (upd (X 0) 4 0) 4 1), (X 45), o', f3', f4', b1_, b2_, b3_, b4_, q1, q2, q3, q4, (upd om' 11 1), tr', wc',
          by rw [fX9_wayAt, asked_y b1, ob2_ss, if_neg i10, s1, ob12_ss, if_neg z, w1, if_neg (Int32.not_lt.mpr z2), refuseS, ob2_ss],
          by rw [fX10_wayAt, goodS, ob1_ss, b2, if_neg i10, e1, ob4_ss, in_n (by omega) (Or.inr ⟨z, z2⟩), ob1_ss, if_pos i00, noS, ob2_ss],
          hI.anewt hB 1 (by decide) (ml_up (by decide) (ml_up (by decide) (ml_up (by decide) (ml_up (by decide) (ml_up (by decide) (ml_up (by decide) (ml_up (by decide) (ml_up (by decide) (ml_up (by decide) (ml_up (by decide) (ml_up (by decide) (ml_up (by decide) (ml_up (by decide) (fun _ _ => rfl)))))))))))))) rfl rfl rfl rfl rfl ⟨rfl, rfl, rfl, rfl, rfl⟩ fr1 ⟨rfl, rfl, rfl, rfl⟩ ⟨rfl, rfl, rfl, rfl, rfl, rfl⟩ ⟨hCT, hCS, s2⟩⟩
  · have b2 : upd (upd (M 0) 0 0) 11 0 14 = 0 := b2
    exact ⟨(-1), (upd (X 0) 4 1), (X 45), (X 63), (X 64), (X 65), (X 66), (X 67), (X 68), (X 69), (X 70), (X 71), (X 72), (X 73), (upd (upd (upd (M 0) 0 0) 11 0) 11 1), (M 25), (M 33),
      by rw [fX9_wayAt, asked_n b1, ob2_ss, if_pos i00],
      by rw [fX10_wayAt, goodS, ob1_ss, b2, if_pos i00, noS, ob2_ss],
      hI.askF 1 (by decide) rfl rfl rfl (core_up (by decide) (core_up (by decide) (core_up (by decide) (core_up (by decide) (core_up (by decide) (core_up (by decide) (core_up (by decide) (core_up (by decide) (core_up (by decide) (core_eq rfl (core_eq rfl (core_up (by decide) (core_up (by decide) (fun _ _ => rfl)))))))))))))) rfl rfl ⟨rfl, rfl, rfl, rfl, rfl⟩ (fun k _ => congrFun (updupd _ _ _ _) k)⟩

theorem ok_judge {n : Nat} (hn : 2000 ≤ n) {X : Nat → Nat → Int32} {Y : Nat → Int64} {c : Int64} {P : Nat → Nat → Nat → Int32} {M : Nat → Nat → Int32} (hI : INV n X Y c P M) : ∃ r y0 y45 y63 y64 y65 y66 y67 y68 y69 y70 y71 y72 y73 z0 z25, fX9_judge n (X 0) (X 5) (X 6) (X 7) (X 8) (X 9) (X 10) (X 11) (X 12) (X 15) (X 18) (X 19) (X 20) (X 45) (X 63) (X 64) (X 65) (X 66) (X 67) (X 68) (X 69) (X 70) (X 71) (X 72) (X 73) = some (r, y0, y45, y63, y64, y65, y66, y67, y68, y69, y70, y71, y72, y73) ∧ fX10_judge n (M 0) (M 15) (M 25) = some (r, z0, z25) ∧ INV n (va_up (va_up (va_up (va_up (va_up (va_up (va_up (va_up (va_up (va_up (va_up (va_up (va_up X 0 y0) 45 y45) 63 y63) 64 y64) 65 y65) 66 y66) 67 y67) 68 y68) 69 y69) 70 y70) 71 y71) 72 y72) 73 y73) Y c P (va_up (va_up M 0 z0) 25 z25) := by
  rcases hI.gate with ⟨G, D, T, N, S, hB⟩ | ⟨b1, b2, -, -⟩
  · have b1 := hB.1
    have b2 : upd (upd (M 0) 0 0) 11 0 14 = 1 := hB.2.1
    obtain ⟨hCT, hCS, hCU⟩ := (hB.more hI).2.2
    obtain ⟨o', f3', f4', b1_, b2_, b3_, b4_, q1, q2, q3, q4, s1, s2, s3⟩ := searchU (n := n) (by omega) hB (f4 := X 65) (bo := X 66) (bw := X 67) (bl := X 68) (bv := X 69) (t0 := X 70) (tw := X 71) (tl := X 72) (tv := X 73) hCU
    obtain ⟨om', tr', e1, e2⟩ := (s2.2 s3).2 (upd (upd (M 0) 0 0) 11 0) (M 25)
    have fr : ∀ k, k ≤ 21 → om' k = upd (upd (M 0) 0 0) 11 0 k := fun k hk => e2 k (by omega)
    exact ⟨(o' 2), (upd (X 0) 4 0), (X 45), o', f3', f4', b1_, b2_, b3_, b4_, q1, q2, q3, q4, om', tr',
      by rw [fX9_judge, asked_y b1, ob2_ss, if_neg i10, s1, ob12_ss],
      by rw [fX10_judge, goodS, ob1_ss, b2, if_neg i10, e1],
      hI.anewt hB 0 (by decide) (ml_up (by decide) (ml_up (by decide) (ml_up (by decide) (ml_up (by decide) (ml_up (by decide) (ml_up (by decide) (ml_up (by decide) (ml_up (by decide) (ml_up (by decide) (ml_up (by decide) (ml_up (by decide) (ml_up (by decide) (ml_up (by decide) (fun _ _ => rfl)))))))))))))) rfl rfl rfl rfl rfl ⟨rfl, rfl, rfl, rfl, rfl⟩ fr ⟨rfl, rfl, rfl, rfl⟩ ⟨rfl, rfl, rfl, rfl, rfl, rfl⟩ ⟨hCT, hCS, s2⟩⟩
  · have b2 : upd (upd (M 0) 0 0) 11 0 14 = 0 := b2
    exact ⟨(-1), (upd (X 0) 4 1), (X 45), (X 63), (X 64), (X 65), (X 66), (X 67), (X 68), (X 69), (X 70), (X 71), (X 72), (X 73), (upd (upd (upd (M 0) 0 0) 11 0) 11 1), (M 25),
      by rw [fX9_judge, asked_n b1, ob2_ss, if_pos i00],
      by rw [fX10_judge, goodS, ob1_ss, b2, if_pos i00, noS, ob2_ss],
      hI.askF 1 (by decide) rfl rfl rfl (core_up (by decide) (core_up (by decide) (core_up (by decide) (core_up (by decide) (core_up (by decide) (core_up (by decide) (core_up (by decide) (core_up (by decide) (core_up (by decide) (core_eq rfl (core_eq rfl (core_up (by decide) (core_up (by decide) (fun _ _ => rfl)))))))))))))) rfl rfl ⟨rfl, rfl, rfl, rfl, rfl⟩ (fun k _ => congrFun (updupd _ _ _ _) k)⟩
