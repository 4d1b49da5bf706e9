/-! THE MODEL: what is asked -/
section Md14R
variable {h : XH} {m : Nat} {S : CS} {d : Nat}
/-- the state, the masks laid -/
def MdM (h : XH) (m : Nat) (S : CS) : Prop := Md h m S ∧ ∃ ra nu nr nm f g, MdO h m (nI S.sz) (nI S.nx) (nI S.tx.length) ra nu nr (nI S.ms.length) nm ∧ h[m + 1]? = some (ia 113 f) ∧ RwL f S.l ∧ RwS f S.l S.s ∧ h[m + 4]? = some (ia 16 g) ∧ Msk g S.l S.s
theorem Md.mask {h' : XH} {g : Nat → Int32} (K : Md h m S) (s1 : Same h h' (m + 4) (m + 5)) (G' : h'[m + 4]? = some (ia 16 g)) : Md h' m S := by
  obtain ⟨b0, ⟨ra, nu, nr, nm, M⟩, ⟨f, A, L, R⟩, ⟨c, C, hC⟩, ⟨f3, F3⟩, -, ⟨t, X, hX⟩, ⟨b, Bo⟩, ⟨T, T7⟩, ⟨F8, F9, M8, M9, hM⟩, ⟨F10, F11, M10, M11⟩, ⟨f12, M12⟩⟩ := K
  exact ⟨b0, ⟨ra, nu, nr, nm, by unfold MdO; rw [s1.2 _ (by omega)]; exact M⟩, ⟨f, by rw [s1.2 _ (by omega)]; exact A, L, R⟩, ⟨c, by rw [s1.2 _ (by omega)]; exact C, hC⟩, ⟨f3, by rw [s1.2 _ (by omega)]; exact F3⟩, ⟨g, G'⟩, ⟨t, by rw [s1.2 _ (by omega)]; exact X, hX⟩, ⟨b, by rw [s1.2 _ (by omega)]; exact Bo⟩, ⟨T, by rw [s1.2 _ (by omega)]; exact T7⟩, ⟨F8, F9, by rw [s1.2 _ (by omega)]; exact M8, by rw [s1.2 _ (by omega)]; exact M9, hM⟩, ⟨F10, F11, by rw [s1.2 _ (by omega)]; exact M10, by rw [s1.2 _ (by omega)]; exact M11⟩, ⟨f12, by rw [s1.2 _ (by omega)]; exact M12⟩⟩
theorem q_lays (K : Md h m S) : ∃ h', xc XP (d + 4) 122 [.ref m] h = some (none, h') ∧ MdM h' m S ∧ Same h h' m (m + 13) := by
  have K0 := K
  obtain ⟨b0, ⟨ra, nu, nr, nm, M⟩, ⟨f, A, L, R⟩, -, -, ⟨g, G⟩, -⟩ := K
  obtain ⟨h', g', e, G', hm, s⟩ := q_laysMasks (d := d) M A L R G
  exact ⟨h', e, ⟨K0.mask s G', ra, nu, nr, nm, f, g', by unfold MdO; rw [s.2 _ (by omega)]; exact M, by rw [s.2 _ (by omega)]; exact A, L, R, G', hm⟩, s.weak (by omega) (by omega)⟩
theorem q_isSlotM {x : Int32} : xc XP (d + 1) 159 [.int x] h = some (some (.int (bI (isSl x))), h) := by
  rw [n_X8_isSlot]
  simp only [e_X8_isSlot_0, e_X8_isSlot_1, e_X8_isSlot_2, e_X8_isSlot_3, e_X8_isSlot_4, q_in, xbk_i, bI_rk, if_true]
  unfold isSl
  congr 4
  refine congrArg bI (decide_eq_decide.mpr ?_)
  rw [Int32.le_iff_toInt_le, Int32.le_iff_toInt_le, Int32.lt_iff_toInt_lt, show (nI 15).toInt = 15 by decide, show (nI 16).toInt = 16 by decide]
  omega
theorem q_countM (K : Md h m S) (w : Int32) : ∃ h', xc XP (d + 14) 179 [.ref m, .int w] h = some (some (.int (aCount S w)), h') ∧ Md h' m S ∧ Same h h' m (m + 13) := by
  have M0 := K.2.1
  obtain ⟨ra0, nu0, nr0, nm0, M0⟩ := M0
  have c0 := M0.k
  obtain ⟨h1, e1, ⟨K1, ra, nu, nr, nm, f, g, M, A, L, R, G, Mk⟩, s1⟩ := q_lays (d := d + 9) K
  refine ⟨h1, ?_, K1, s1⟩
  have c1 := M.k
  have l3 := L.2.2.1
  have ld0 := ra_ld A 0 (by omega)
  rw [l3] at ld0
  have he := em_rws S.s
  have qf := q_rulesThat (d := d + 9) M A L false
  have qt := q_rulesThat (d := d + 9) M A L true
  simp only [Bool.false_eq_true, if_false] at qf
  simp only [if_true] at qt
  rw [bI_f] at qf
  rw [bI_t] at qt
  unfold aCount
  rw [n_X8_count]
  simp (disch := first | assumption | omega) only [e_X8_count_0, e_X8_count_1, e_X8_count_2, e_X8_count_3, e1, xbk_v]
  have q1 := q_emptySlots (d := d + 13) M A L R
  by_cases w0 : w = nI 0
  · subst w0
    rw [show xsw [4, 9, 14, 17, 21, 25, 28, 31, 34] 0 37 (nI 0) = 4 by decide]
    simp (disch := first | assumption | omega) only [if_true, e_X8_count_4, e_X8_count_5, e_X8_count_6, e_X8_count_7, e_X8_count_8, M.f0, Option.bind_some, ld0]
  by_cases w1 : w = nI 1
  · subst w1
    rw [show xsw [4, 9, 14, 17, 21, 25, 28, 31, 34] 0 37 (nI 1) = 9 by decide]
    simp (disch := first | assumption | omega) only [if_true, if_false, show ¬ nI 1 = nI 0 by decide, e_X8_count_9, e_X8_count_10, e_X8_count_11, e_X8_count_12, e_X8_count_13, q1, xbk_i, pk_sub]
    rw [show 16 - ct (emA S.s) 16 = rws S.s by omega]
  by_cases w2 : w = nI 2
  · subst w2
    rw [show xsw [4, 9, 14, 17, 21, 25, 28, 31, 34] 0 37 (nI 2) = 14 by decide]
    simp (disch := first | assumption | omega) only [if_true, if_false, show ¬ nI 2 = nI 0 by decide, show ¬ nI 2 = nI 1 by decide, e_X8_count_14, e_X8_count_15, e_X8_count_16, q1, xbk_i]
    rw [show 16 - rws S.s = ct (emA S.s) 16 by omega]
  by_cases w3 : w = nI 3
  · subst w3
    rw [show xsw [4, 9, 14, 17, 21, 25, 28, 31, 34] 0 37 (nI 3) = 17 by decide]
    simp (disch := first | assumption | omega) only [if_true, if_false, show ¬ nI 3 = nI 0 by decide, show ¬ nI 3 = nI 1 by decide, show ¬ nI 3 = nI 2 by decide, e_X8_count_17, e_X8_count_18, e_X8_count_19, e_X8_count_20, qf, xbk_i]
  by_cases w4 : w = nI 4
  · subst w4
    rw [show xsw [4, 9, 14, 17, 21, 25, 28, 31, 34] 0 37 (nI 4) = 21 by decide]
    simp (disch := first | assumption | omega) only [if_true, if_false, show ¬ nI 4 = nI 0 by decide, show ¬ nI 4 = nI 1 by decide, show ¬ nI 4 = nI 2 by decide, show ¬ nI 4 = nI 3 by decide, e_X8_count_21, e_X8_count_22, e_X8_count_23, e_X8_count_24, qt, xbk_i]
  by_cases w5 : w = nI 5
  · subst w5
    rw [show xsw [4, 9, 14, 17, 21, 25, 28, 31, 34] 0 37 (nI 5) = 25 by decide]
    simp (disch := first | assumption | omega) only [if_true, if_false, show ¬ nI 5 = nI 0 by decide, show ¬ nI 5 = nI 1 by decide, show ¬ nI 5 = nI 2 by decide, show ¬ nI 5 = nI 3 by decide, show ¬ nI 5 = nI 4 by decide, e_X8_count_25, e_X8_count_26, e_X8_count_27, M.f2, Option.bind_some]
  by_cases w6 : w = nI 6
  · subst w6
    rw [show xsw [4, 9, 14, 17, 21, 25, 28, 31, 34] 0 37 (nI 6) = 28 by decide]
    simp (disch := first | assumption | omega) only [if_true, if_false, show ¬ nI 6 = nI 0 by decide, show ¬ nI 6 = nI 1 by decide, show ¬ nI 6 = nI 2 by decide, show ¬ nI 6 = nI 3 by decide, show ¬ nI 6 = nI 4 by decide, show ¬ nI 6 = nI 5 by decide, e_X8_count_28, e_X8_count_29, e_X8_count_30, M.f7, Option.bind_some]
  by_cases w7 : w = nI 7
  · subst w7
    rw [show xsw [4, 9, 14, 17, 21, 25, 28, 31, 34] 0 37 (nI 7) = 31 by decide]
    simp (disch := first | assumption | omega) only [if_true, if_false, show ¬ nI 7 = nI 0 by decide, show ¬ nI 7 = nI 1 by decide, show ¬ nI 7 = nI 2 by decide, show ¬ nI 7 = nI 3 by decide, show ¬ nI 7 = nI 4 by decide, show ¬ nI 7 = nI 5 by decide, show ¬ nI 7 = nI 6 by decide, e_X8_count_31, e_X8_count_32, e_X8_count_33, q_pairsM M A L R G Mk, xbk_i]
  by_cases w8 : w = nI 8
  · subst w8
    rw [show xsw [4, 9, 14, 17, 21, 25, 28, 31, 34] 0 37 (nI 8) = 34 by decide]
    simp (disch := first | assumption | omega) only [if_true, if_false, show ¬ nI 8 = nI 0 by decide, show ¬ nI 8 = nI 1 by decide, show ¬ nI 8 = nI 2 by decide, show ¬ nI 8 = nI 3 by decide, show ¬ nI 8 = nI 4 by decide, show ¬ nI 8 = nI 5 by decide, show ¬ nI 8 = nI 6 by decide, show ¬ nI 8 = nI 7 by decide, e_X8_count_34, e_X8_count_35, e_X8_count_36, q_differentM M A L R G Mk, xbk_i]
  rw [show xsw [4, 9, 14, 17, 21, 25, 28, 31, 34] 0 37 w = 37 by simp only [xsw, w0, w1, w2, w3, w4, w5, w6, w7, w8, if_false]]
  simp only [w0, w1, w2, w3, w4, w5, w6, w7, w8, if_false, e_X8_count_37, e_X8_count_38]
end Md14R
