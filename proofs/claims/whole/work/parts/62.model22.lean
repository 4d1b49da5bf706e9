/-! THE MODEL: the moves that were made -/
section Md16R
variable {h : XH} {m : Nat} {S : CS} {d : Nat}
theorem q_movedM (K : Md h m S) (i w : Int32) : xc XP (d + 14) 164 [.ref m, .int i, .int w] h = some (some (.int (aMoved S i w)), h) := by
  obtain ⟨b0, ⟨ra, nu, nr, nm, M⟩, -, -, -, -, -, -, -, ⟨F, T, m3, m4, m5⟩, -⟩ := K
  have hms := b0.2.2.2.2
  rw [n_X8_moved]
  unfold aMoved
  by_cases g1 : i < -1
  · rw [if_pos (Or.inl g1)]
    simp only [e_X8_moved_0, e_X8_moved_1, e_X8_moved_2, e_X8_moved_3, e_X8_moved_4, e_X8_moved_5, e_X8_moved_6, e_X8_moved_7, e_X8_moved_8, e_X8_moved_9, g1, if_true]
  · by_cases g2 : w < nI 0
    · rw [if_pos (Or.inr (Or.inl g2))]
      simp only [e_X8_moved_0, e_X8_moved_1, e_X8_moved_2, e_X8_moved_3, e_X8_moved_4, e_X8_moved_5, e_X8_moved_6, e_X8_moved_7, e_X8_moved_8, e_X8_moved_9, g1, if_false, q_in, xbk_i, decide_eq_false (show ¬ (nI 0 ≤ w ∧ w ≤ nI 1) from fun hh => absurd g2 (Int32.not_lt.mpr hh.1)), bI_f, not_true]
    · by_cases g3 : w ≤ nI 1
      · rw [if_neg (fun hh => by
          rcases hh with hh | hh | hh
          · exact g1 hh
          · exact g2 hh
          · exact absurd g3 (Int32.not_le.mpr hh))]
        have hin := decide_eq_true (show nI 0 ≤ w ∧ w ≤ nI 1 from ⟨Int32.not_lt.mp g2, g3⟩)
        by_cases g4 : i = -1
        · subst g4
          simp only [e_X8_moved_0, e_X8_moved_1, e_X8_moved_2, e_X8_moved_3, e_X8_moved_4, e_X8_moved_5, e_X8_moved_6, e_X8_moved_7, e_X8_moved_8, e_X8_moved_9, e_X8_moved_10, e_X8_moved_11, e_X8_moved_12, e_X8_moved_13, e_X8_moved_14, e_X8_moved_32, g1, if_false, q_in, xbk_i, hin, bI_0, Bool.true_eq_false, not_false_eq_true, if_true, show ¬ nI 0 ≤ (-1 : Int32) by decide, M.f13, Option.bind_some]
        · rw [if_neg g4]
          have hi0 : nI 0 ≤ i := by
            rcases Int32.lt_or_eq_of_le (Int32.not_lt.mp g1) with q | q
            · have a1 : (-1 : Int32).toInt < i.toInt := Int32.lt_iff_toInt_lt.mp q
              have a2 : (-1 : Int32).toInt = -1 := by decide
              apply Int32.le_iff_toInt_le.mpr
              rw [nI_toInt (by decide)]
              omega
            · exact absurd q.symm g4
          by_cases g5 : nI S.ms.length ≤ i
          · rw [if_pos g5]
            simp only [e_X8_moved_0, e_X8_moved_1, e_X8_moved_2, e_X8_moved_3, e_X8_moved_4, e_X8_moved_5, e_X8_moved_6, e_X8_moved_7, e_X8_moved_8, e_X8_moved_9, e_X8_moved_10, e_X8_moved_11, e_X8_moved_15, e_X8_moved_16, e_X8_moved_17, e_X8_moved_18, e_X8_moved_19, e_X8_moved_20, e_X8_moved_32, g1, if_false, q_in, xbk_i, hin, bI_0, Bool.true_eq_false, not_false_eq_true, if_true, hi0, M.f13, Option.bind_some, Int32.not_lt.mpr g5]
          · rw [if_neg g5]
            have g5 := Int32.not_le.mp g5
            obtain ⟨n, hn, rfl⟩ := nn_of hi0
            have hlt : n < S.ms.length := (nI_ltI hn (by omega)).mp g5
            have hv := m5 n _ (List.getElem?_eq_getElem hlt)
            have hg : S.ms.getD n (0, 0) = S.ms[n] := by rw [List.getD_eq_getElem?_getD, List.getElem?_eq_getElem hlt]; rfl
            have l1 := xld_ia m3 (by decide) (show n < 48 by omega)
            have l2 := xld_ia m4 (by decide) (show n < 48 by omega)
            rw [xN_nI hn, hg]
            rw [hv.1] at l1
            rw [hv.2] at l2
            by_cases g6 : w = nI 0
            · subst g6
              simp only [e_X8_moved_0, e_X8_moved_1, e_X8_moved_2, e_X8_moved_3, e_X8_moved_4, e_X8_moved_5, e_X8_moved_6, e_X8_moved_7, e_X8_moved_8, e_X8_moved_9, e_X8_moved_10, e_X8_moved_11, e_X8_moved_12, e_X8_moved_13, e_X8_moved_14, e_X8_moved_15, e_X8_moved_16, e_X8_moved_17, e_X8_moved_18, e_X8_moved_19, e_X8_moved_20, e_X8_moved_21, e_X8_moved_22, e_X8_moved_23, e_X8_moved_24, e_X8_moved_25, e_X8_moved_26, e_X8_moved_27, e_X8_moved_28, e_X8_moved_29, e_X8_moved_30, e_X8_moved_31, e_X8_moved_32, g1, g5, if_true, if_false, q_in, xbk_i, hin, bI_0, Bool.true_eq_false, not_false_eq_true, not_true, hi0, M.f13, M.f14, Option.bind_some, l1]
            · simp only [e_X8_moved_0, e_X8_moved_1, e_X8_moved_2, e_X8_moved_3, e_X8_moved_4, e_X8_moved_5, e_X8_moved_6, e_X8_moved_7, e_X8_moved_8, e_X8_moved_9, e_X8_moved_10, e_X8_moved_11, e_X8_moved_12, e_X8_moved_13, e_X8_moved_14, e_X8_moved_15, e_X8_moved_16, e_X8_moved_17, e_X8_moved_18, e_X8_moved_19, e_X8_moved_20, e_X8_moved_21, e_X8_moved_22, e_X8_moved_23, e_X8_moved_24, e_X8_moved_25, e_X8_moved_26, e_X8_moved_27, e_X8_moved_28, e_X8_moved_29, e_X8_moved_30, e_X8_moved_31, e_X8_moved_32, g1, g5, g6, if_true, if_false, q_in, xbk_i, hin, bI_0, Bool.true_eq_false, not_false_eq_true, not_true, hi0, M.f13, M.f15, Option.bind_some, l2]
      · rw [if_pos (Or.inr (Or.inr (Int32.not_le.mp g3)))]
        simp only [e_X8_moved_0, e_X8_moved_1, e_X8_moved_2, e_X8_moved_3, e_X8_moved_4, e_X8_moved_5, e_X8_moved_6, e_X8_moved_7, e_X8_moved_8, e_X8_moved_9, g1, if_false, q_in, xbk_i, decide_eq_false (show ¬ (nI 0 ≤ w ∧ w ≤ nI 1) from fun hh => g3 hh.2), bI_f, not_true]
end Md16R
