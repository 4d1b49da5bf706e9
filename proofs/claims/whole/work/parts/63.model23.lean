/-! THE MODEL: a rule is asked -/
section Md17R
variable {h : XH} {m : Nat} {S : CS} {d : Nat}
theorem q_ruleM (K : Md h m S) (r w : Int32) : xc XP (d + 14) 163 [.ref m, .int r, .int w] h = some (some (.int (aRule S r w)), h) := by
  obtain ⟨b0, ⟨ra, nu, nr, nm, M⟩, ⟨f, A, L, R⟩, -⟩ := K
  have c0 := M.k
  have l1 := L.1
  have qr := q_isRuleNumber (d := d + 12) M A L (x := r)
  have qr : xc XP (d + 13) 154 [.ref m, .int r] h = some (some (.int (bI (isR S r))), h) := qr
  unfold aRule
  rw [n_X8_rule]
  cases hr : isR S r with
  | false =>
    rw [hr] at qr
    simp (disch := first | assumption | omega) only [e_X8_rule_0, e_X8_rule_1, e_X8_rule_2, e_X8_rule_3, e_X8_rule_4, e_X8_rule_5, qr, xbk_i, bI_f, not_true, if_false, Bool.false_eq_true]
  | true =>
    rw [hr] at qr
    obtain ⟨n, hn, rfl⟩ := isR_of l1 hr
    rw [if_pos rfl, xN_nI (by omega)]
    obtain ⟨r1, r2, r3, r4, r5⟩ := L.2.2.2 n hn
    simp (disch := first | assumption | omega) only [e_X8_rule_0, e_X8_rule_1, e_X8_rule_2, e_X8_rule_3, e_X8_rule_4, e_X8_rule_5, e_X8_rule_6, e_X8_rule_7, qr, xbk_i, bI_0, Bool.true_eq_false, not_false_eq_true, if_true]
    by_cases w0 : w = nI 0
    · subst w0
      rw [show xsw [8, 8, 8, 8, 8, 19, 24, 29, 34, 39] 0 44 (nI 0) = 8 by decide]
      have ld := ra_ld A (1 + n) (by omega)
      rw [r1] at ld
      simp (disch := first | assumption | omega) only [if_true, if_false, e_X8_rule_8, e_X8_rule_9, e_X8_rule_10, e_X8_rule_11, e_X8_rule_12, e_X8_rule_13, e_X8_rule_14, e_X8_rule_15, e_X8_rule_16, e_X8_rule_17, e_X8_rule_18, M.f0, Option.bind_some, pk_mul, nI_add, Nat.reduceMul, Nat.reduceAdd, ld]
    by_cases w1 : w = nI 1
    · subst w1
      rw [show xsw [8, 8, 8, 8, 8, 19, 24, 29, 34, 39] 0 44 (nI 1) = 8 by decide]
      have ld := ra_ld A (17 + n) (by omega)
      rw [r2] at ld
      simp (disch := first | assumption | omega) only [if_true, if_false, show ¬ nI 1 = nI 0 by decide, e_X8_rule_8, e_X8_rule_9, e_X8_rule_10, e_X8_rule_11, e_X8_rule_12, e_X8_rule_13, e_X8_rule_14, e_X8_rule_15, e_X8_rule_16, e_X8_rule_17, e_X8_rule_18, M.f0, Option.bind_some, pk_mul, nI_add, Nat.reduceMul, Nat.reduceAdd, ld]
    by_cases w2 : w = nI 2
    · subst w2
      rw [show xsw [8, 8, 8, 8, 8, 19, 24, 29, 34, 39] 0 44 (nI 2) = 8 by decide]
      have ld := ra_ld A (33 + n) (by omega)
      rw [r3] at ld
      simp (disch := first | assumption | omega) only [if_true, if_false, show ¬ nI 2 = nI 0 by decide, show ¬ nI 2 = nI 1 by decide, e_X8_rule_8, e_X8_rule_9, e_X8_rule_10, e_X8_rule_11, e_X8_rule_12, e_X8_rule_13, e_X8_rule_14, e_X8_rule_15, e_X8_rule_16, e_X8_rule_17, e_X8_rule_18, M.f0, Option.bind_some, pk_mul, nI_add, Nat.reduceMul, Nat.reduceAdd, ld]
    by_cases w3 : w = nI 3
    · subst w3
      rw [show xsw [8, 8, 8, 8, 8, 19, 24, 29, 34, 39] 0 44 (nI 3) = 8 by decide]
      have ld := ra_ld A (49 + n) (by omega)
      rw [r4] at ld
      simp (disch := first | assumption | omega) only [if_true, if_false, show ¬ nI 3 = nI 0 by decide, show ¬ nI 3 = nI 1 by decide, show ¬ nI 3 = nI 2 by decide, e_X8_rule_8, e_X8_rule_9, e_X8_rule_10, e_X8_rule_11, e_X8_rule_12, e_X8_rule_13, e_X8_rule_14, e_X8_rule_15, e_X8_rule_16, e_X8_rule_17, e_X8_rule_18, M.f0, Option.bind_some, pk_mul, nI_add, Nat.reduceMul, Nat.reduceAdd, ld]
    by_cases w4 : w = nI 4
    · subst w4
      rw [show xsw [8, 8, 8, 8, 8, 19, 24, 29, 34, 39] 0 44 (nI 4) = 8 by decide]
      have ld := ra_ld A (65 + n) (by omega)
      rw [r5] at ld
      simp (disch := first | assumption | omega) only [if_true, if_false, show ¬ nI 4 = nI 0 by decide, show ¬ nI 4 = nI 1 by decide, show ¬ nI 4 = nI 2 by decide, show ¬ nI 4 = nI 3 by decide, e_X8_rule_8, e_X8_rule_9, e_X8_rule_10, e_X8_rule_11, e_X8_rule_12, e_X8_rule_13, e_X8_rule_14, e_X8_rule_15, e_X8_rule_16, e_X8_rule_17, e_X8_rule_18, M.f0, Option.bind_some, pk_mul, nI_add, Nat.reduceMul, Nat.reduceAdd, ld]
    by_cases w5 : w = nI 5
    · subst w5
      rw [show xsw [8, 8, 8, 8, 8, 19, 24, 29, 34, 39] 0 44 (nI 5) = 19 by decide]
      simp (disch := first | assumption | omega) only [if_true, if_false, show ¬ nI 5 = nI 0 by decide, show ¬ nI 5 = nI 1 by decide, show ¬ nI 5 = nI 2 by decide, show ¬ nI 5 = nI 3 by decide, show ¬ nI 5 = nI 4 by decide, e_X8_rule_19, e_X8_rule_20, e_X8_rule_21, e_X8_rule_22, e_X8_rule_23, M.f0, Option.bind_some, q_rowsOfM A L hn, xbk_i]
    by_cases w6 : w = nI 6
    · subst w6
      rw [show xsw [8, 8, 8, 8, 8, 19, 24, 29, 34, 39] 0 44 (nI 6) = 24 by decide]
      simp (disch := first | assumption | omega) only [if_true, if_false, show ¬ nI 6 = nI 0 by decide, show ¬ nI 6 = nI 1 by decide, show ¬ nI 6 = nI 2 by decide, show ¬ nI 6 = nI 3 by decide, show ¬ nI 6 = nI 4 by decide, show ¬ nI 6 = nI 5 by decide, e_X8_rule_24, e_X8_rule_25, e_X8_rule_26, e_X8_rule_27, e_X8_rule_28, M.f0, Option.bind_some, q_keysHadM M A L hn, xbk_i]
    by_cases w7 : w = nI 7
    · subst w7
      rw [show xsw [8, 8, 8, 8, 8, 19, 24, 29, 34, 39] 0 44 (nI 7) = 29 by decide]
      simp (disch := first | assumption | omega) only [if_true, if_false, show ¬ nI 7 = nI 0 by decide, show ¬ nI 7 = nI 1 by decide, show ¬ nI 7 = nI 2 by decide, show ¬ nI 7 = nI 3 by decide, show ¬ nI 7 = nI 4 by decide, show ¬ nI 7 = nI 5 by decide, show ¬ nI 7 = nI 6 by decide, e_X8_rule_29, e_X8_rule_30, e_X8_rule_31, e_X8_rule_32, e_X8_rule_33, M.f0, Option.bind_some, q_keysAnsM M A L hn, xbk_i]
    by_cases w8 : w = nI 8
    · subst w8
      rw [show xsw [8, 8, 8, 8, 8, 19, 24, 29, 34, 39] 0 44 (nI 8) = 34 by decide]
      simp (disch := first | assumption | omega) only [if_true, if_false, show ¬ nI 8 = nI 0 by decide, show ¬ nI 8 = nI 1 by decide, show ¬ nI 8 = nI 2 by decide, show ¬ nI 8 = nI 3 by decide, show ¬ nI 8 = nI 4 by decide, show ¬ nI 8 = nI 5 by decide, show ¬ nI 8 = nI 6 by decide, show ¬ nI 8 = nI 7 by decide, e_X8_rule_34, e_X8_rule_35, e_X8_rule_36, e_X8_rule_37, e_X8_rule_38, M.f0, Option.bind_some, q_isCoveredM M A L hn, q_bit, xbk_i]
    by_cases w9 : w = nI 9
    · subst w9
      rw [show xsw [8, 8, 8, 8, 8, 19, 24, 29, 34, 39] 0 44 (nI 9) = 39 by decide]
      simp (disch := first | assumption | omega) only [if_true, if_false, show ¬ nI 9 = nI 0 by decide, show ¬ nI 9 = nI 1 by decide, show ¬ nI 9 = nI 2 by decide, show ¬ nI 9 = nI 3 by decide, show ¬ nI 9 = nI 4 by decide, show ¬ nI 9 = nI 5 by decide, show ¬ nI 9 = nI 6 by decide, show ¬ nI 9 = nI 7 by decide, show ¬ nI 9 = nI 8 by decide, e_X8_rule_39, e_X8_rule_40, e_X8_rule_41, e_X8_rule_42, e_X8_rule_43, M.f0, Option.bind_some, q_isIdleM M A L hn, q_bit, xbk_i]
    rw [show xsw [8, 8, 8, 8, 8, 19, 24, 29, 34, 39] 0 44 w = 44 by simp only [xsw, w0, w1, w2, w3, w4, w5, w6, w7, w8, w9, if_false]]
    simp only [w0, w1, w2, w3, w4, w5, w6, w7, w8, w9, if_false, e_X8_rule_44, e_X8_rule_45]
end Md17R
