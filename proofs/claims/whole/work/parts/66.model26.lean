/-! THE MODEL: key -/
section Md20R
variable {h : XH} {m : Nat} {S : CS} {d : Nat}
theorem isKy_of {x : Int32} (hx : isKy x = true) : ∃ n, n < 128 ∧ x = nI n := by
  unfold isKy at hx
  simp only [decide_eq_true_eq] at hx
  obtain ⟨n, hn, rfl⟩ := nn_of hx.1
  exact ⟨n, (nI_ltI hn (by decide)).mp hx.2, rfl⟩
theorem q_inK {x : Int32} : xc XP d 111 [.int x, .int (nI 0), .int (nI 127)] h = some (some (.int (bI (isKy x))), h) := by
  rw [q_in]
  unfold isKy
  congr 4
  refine congrArg bI (decide_eq_decide.mpr ?_)
  rw [Int32.le_iff_toInt_le, Int32.le_iff_toInt_le, Int32.lt_iff_toInt_lt, show (nI 127).toInt = 127 by decide, show (nI 128).toInt = 128 by decide]
  omega
theorem q_keyM (K : Md h m S) (k w : Int32) : ∃ h', xc XP (d + 14) 173 [.ref m, .int k, .int w] h = some (some (.int (aKey S k w)), h') ∧ Md h' m S ∧ Same h h' m (m + 13) := by
  have K0 := K
  obtain ⟨b0, ⟨ra, nu, nr, nm, M⟩, ⟨f, A, L, R⟩, -⟩ := K
  have c0 := M.k
  have l1 := L.1
  unfold aKey
  rw [n_X8_key]
  cases hs : isKy k with
  | false =>
    refine ⟨h, ?_, K0, Same.refl _ _ _⟩
    simp (disch := first | assumption | omega) only [e_X8_key_0, e_X8_key_1, e_X8_key_2, e_X8_key_3, e_X8_key_4, e_X8_key_10, e_X8_key_11, q_inK, hs, xbk_i, bI_f, if_true, Bool.false_eq_true, if_false]
  | true =>
    by_cases gw : nI 0 ≤ w ∧ w ≤ nI 6
    · obtain ⟨n, hn, rfl⟩ := isKy_of hs
      rw [xN_nI (by omega), if_pos rfl]
      obtain ⟨z, hz, rfl⟩ := nn_of gw.1
      have hz6 : z ≤ 6 := (nI_leI hz (by decide)).mp gw.2
      have hIn : ∀ e, xc XP e 111 [.int (nI z), .int (nI 0), .int (nI 6)] h = some (some (.int (bI true)), h) := fun e => by rw [q_in, decide_eq_true gw]
      obtain ⟨h1, e1, ⟨K1, ra', nu', nr', nm', f', g', M1, A1, L1, R1, G1, Mk1⟩, s1⟩ := q_lays (d := d + 9) K0
      have c1 := M1.k
      refine ⟨h1, ?_, K1, s1⟩
      have qs := q_slotOf (d := d + 12) M1 A1 L1 R1 G1 Mk1 (k := n)
      have q0 : xe XP (d + 14) 173 (0, [.ref m, .int (nI n), .int (nI z), .null, .null, .null], [], h) = xe XP (d + 14) 173 (xsw [22, 26, 33, 35, 47, 76] 0 100 (nI z), [.ref m, .int (nI n), .int (nI z), .int (oI (tS S.l S.s n)), .int (nI 0), .null], [], h1) := by
        simp (disch := first | assumption | omega) only [e_X8_key_0, e_X8_key_1, e_X8_key_2, e_X8_key_3, e_X8_key_4, e_X8_key_5, e_X8_key_6, e_X8_key_7, e_X8_key_8, e_X8_key_9, e_X8_key_10, e_X8_key_11, e_X8_key_12, e_X8_key_13, e_X8_key_14, e_X8_key_15, e_X8_key_16, e_X8_key_17, e_X8_key_18, e_X8_key_19, e_X8_key_20, e_X8_key_21, q_inK, hs, hIn, xbk_i, xbk_v, bI_0, Bool.true_eq_false, if_false, not_false_eq_true, if_true, e1, qs]
      rw [q0]
      have ht : ∀ i, tS S.l S.s n = some i → i < 16 := fun i hi => by have := (fup_some.mp hi).2.1; omega
      rcases (show z = 0 ∨ z = 1 ∨ z = 2 ∨ z = 3 ∨ z = 4 ∨ z = 5 ∨ z = 6 by omega) with e | e | e | e | e | e | e
      · subst e
        rw [show xsw [22, 26, 33, 35, 47, 76] 0 100 (nI 0) = 22 by decide]
        simp (disch := first | assumption | omega) only [e_X8_key_22, e_X8_key_23, e_X8_key_24, e_X8_key_25, q_tableAnswer M1 A1 L1 R1 G1 Mk1, xbk_i, if_true]
      · subst e
        rw [show xsw [22, 26, 33, 35, 47, 76] 0 100 (nI 1) = 26 by decide]
        have q1 := q_listRule (d := d + 11) M1 A1 L1 (k := n) (but := none) (fun j hj => by cases hj) hn
        rw [oI_none] at q1
        have q2 := q_answerBy (d := d + 13) M1 A1 L1 (o := lsB S.l none n) (fun j hj => lsB_len hj)
        simp (disch := first | assumption | omega) only [e_X8_key_26, e_X8_key_27, e_X8_key_28, e_X8_key_29, e_X8_key_30, e_X8_key_31, e_X8_key_32, q1, q2, xbk_i, if_true, if_false, show ¬ nI 1 = nI 0 by decide]
      · subst e
        rw [show xsw [22, 26, 33, 35, 47, 76] 0 100 (nI 2) = 33 by decide]
        simp (disch := first | assumption | omega) only [e_X8_key_33, e_X8_key_34, if_true, if_false, show ¬ nI 2 = nI 0 by decide, show ¬ nI 2 = nI 1 by decide]
      · subst e
        rw [show xsw [22, 26, 33, 35, 47, 76] 0 100 (nI 3) = 35 by decide]
        simp (disch := first | assumption | omega) only [if_true, if_false, show ¬ nI 3 = nI 0 by decide, show ¬ nI 3 = nI 1 by decide, show ¬ nI 3 = nI 2 by decide]
        cases hq : tS S.l S.s n with
        | none =>
          simp (disch := first | assumption | omega) only [e_X8_key_35, e_X8_key_36, e_X8_key_37, e_X8_key_38, e_X8_key_39, e_X8_key_46, oI_none, not_true, if_false]
          rfl
        | some i =>
          have hi := ht i hq
          have hfit := (fup_some.mp hq).2.2.1
          cases hx : S.s i with
          | none => unfold fitS at hfit; rw [hx] at hfit; cases hfit
          | some x =>
            obtain ⟨-, -, p1, p2⟩ := rs_some A1 R1 hi hx
            have hn4 := nI_n4 (n := i) (by omega)
            have hra : rAt S.s (some i) = some x.1 := by unfold rAt; simp [hx]
            simp (disch := first | assumption | omega) only [e_X8_key_35, e_X8_key_36, e_X8_key_37, e_X8_key_40, e_X8_key_41, e_X8_key_42, e_X8_key_43, e_X8_key_44, e_X8_key_45, e_X8_key_46, oI_some, hn4, not_false_eq_true, if_true, M1.f0, Option.bind_some, nI_add, p1, hra]
      · subst e
        rw [show xsw [22, 26, 33, 35, 47, 76] 0 100 (nI 4) = 47 by decide]
        simp (disch := first | assumption | omega) only [e_X8_key_47, e_X8_key_48, if_true, if_false, show ¬ nI 4 = nI 0 by decide, show ¬ nI 4 = nI 1 by decide, show ¬ nI 4 = nI 2 by decide, show ¬ nI 4 = nI 3 by decide]
        have key := loop_ct (fun j c => xe XP (d + 14) 173 (49, [.ref m, .int (nI n), .int (nI 4), .int (oI (tS S.l S.s n)), .int (nI c), .int (nI j)], [], h1)) (fitS S.l S.s n) 16 (by
          intro j c hj hc
          show xe XP (d + 14) 173 (49, _, _, _) = xe XP (d + 14) 173 (49, _, _, _)
          rw [e_X8_key_49]
          have pm := mg_ld G1 Mk1 hj
          cases hx : S.s j with
          | none =>
            have p1 := rs_none A1 R1 hj hx
            have hf : fitS S.l S.s n j = false := by unfold fitS; rw [hx]
            simp (disch := first | assumption | omega) only [e_X8_key_50, e_X8_key_51, e_X8_key_52, e_X8_key_53, e_X8_key_54, e_X8_key_55, e_X8_key_56, e_X8_key_57, e_X8_key_58, e_X8_key_59, e_X8_key_60, e_X8_key_61, e_X8_key_62, e_X8_key_63, e_X8_key_64, e_X8_key_65, e_X8_key_66, e_X8_key_67, e_X8_key_68, e_X8_key_69, e_X8_key_70, e_X8_key_71, e_X8_key_72, e_X8_key_73, nI_leI, if_f, M1.f0, Option.bind_some, nI_add, p1, m4_lt0, if_true, hf, Bool.false_eq_true, if_false]
          | some x =>
            obtain ⟨x1, x2, p1, p2⟩ := rs_some A1 R1 hj hx
            have hf : fitS S.l S.s n j = fitX S.l x n := by unfold fitS; rw [hx]
            rw [hx] at pm
            have pm : xld h1 (m + 4) 0 (nI j) = some (nI (mk S.l x)) := pm
            rw [hf]
            cases hb : fitX S.l x n with
            | false => simp (disch := first | assumption | omega) only [e_X8_key_50, e_X8_key_51, e_X8_key_52, e_X8_key_53, e_X8_key_54, e_X8_key_55, e_X8_key_56, e_X8_key_57, e_X8_key_58, e_X8_key_59, e_X8_key_60, e_X8_key_61, e_X8_key_62, e_X8_key_63, e_X8_key_64, e_X8_key_65, e_X8_key_66, e_X8_key_67, e_X8_key_68, e_X8_key_69, e_X8_key_70, e_X8_key_71, e_X8_key_72, e_X8_key_73, nI_leI, if_f, M1.f0, M1.f5, Option.bind_some, nI_add, p1, nI_lt0, pm, q_isFit, hb, xbk_i, bI_f, if_true, Bool.false_eq_true, if_false]
            | true => simp (disch := first | assumption | omega) only [e_X8_key_50, e_X8_key_51, e_X8_key_52, e_X8_key_53, e_X8_key_54, e_X8_key_55, e_X8_key_56, e_X8_key_57, e_X8_key_58, e_X8_key_59, e_X8_key_60, e_X8_key_61, e_X8_key_62, e_X8_key_63, e_X8_key_64, e_X8_key_65, e_X8_key_66, e_X8_key_67, e_X8_key_68, e_X8_key_69, e_X8_key_70, e_X8_key_71, e_X8_key_72, e_X8_key_73, nI_leI, if_f, M1.f0, M1.f5, Option.bind_some, nI_add, p1, nI_lt0, pm, q_isFit, hb, xbk_i, bI_0, Bool.true_eq_false, if_true, if_false]) 16 (Nat.le_refl _)
        have key : xe XP (d + 14) 173 (49, [.ref m, .int (nI n), .int (nI 4), .int (oI (tS S.l S.s n)), .int (nI 0), .int (nI 0)], [], h1) = _ := key
        rw [key]
        simp (disch := first | assumption | omega) only [e_X8_key_49, e_X8_key_50, e_X8_key_51, e_X8_key_74, e_X8_key_75, nI_leI, if_t]
      · subst e
        rw [show xsw [22, 26, 33, 35, 47, 76] 0 100 (nI 5) = 76 by decide]
        simp (disch := first | assumption | omega) only [e_X8_key_76, e_X8_key_77, if_true, if_false, show ¬ nI 5 = nI 0 by decide, show ¬ nI 5 = nI 1 by decide, show ¬ nI 5 = nI 2 by decide, show ¬ nI 5 = nI 3 by decide, show ¬ nI 5 = nI 4 by decide]
        have ld0 := ra_ld A1 0 (by omega)
        rw [L1.2.2.1] at ld0
        have key := loop_ct (fun j c => xe XP (d + 14) 173 (78, [.ref m, .int (nI n), .int (nI 5), .int (oI (tS S.l S.s n)), .int (nI c), .int (nI j)], [], h1)) (fun j => hasR (rlN S.l j) n) S.l.length (by
          intro j c hj hc
          show xe XP (d + 14) 173 (78, _, _, _) = xe XP (d + 14) 173 (78, _, _, _)
          rw [e_X8_key_78]
          have qh := q_hasM (d := d + 12) A1 L1 hj hn
          cases hb : hasR (rlN S.l j) n with
          | false =>
            rw [hb] at qh
            simp (disch := first | assumption | omega) only [e_X8_key_79, e_X8_key_80, e_X8_key_81, e_X8_key_82, e_X8_key_83, e_X8_key_84, e_X8_key_85, e_X8_key_86, e_X8_key_87, e_X8_key_88, e_X8_key_89, e_X8_key_90, e_X8_key_91, e_X8_key_92, e_X8_key_93, e_X8_key_94, e_X8_key_95, e_X8_key_96, e_X8_key_97, M1.f0, Option.bind_some, ld0, nI_leI, if_f, qh, xbk_i, bI_f, if_true, nI_add, Bool.false_eq_true, if_false]
          | true =>
            rw [hb] at qh
            simp (disch := first | assumption | omega) only [e_X8_key_79, e_X8_key_80, e_X8_key_81, e_X8_key_82, e_X8_key_83, e_X8_key_84, e_X8_key_85, e_X8_key_86, e_X8_key_87, e_X8_key_88, e_X8_key_89, e_X8_key_90, e_X8_key_91, e_X8_key_92, e_X8_key_93, e_X8_key_94, e_X8_key_95, e_X8_key_96, e_X8_key_97, M1.f0, Option.bind_some, ld0, nI_leI, if_f, qh, xbk_i, bI_0, Bool.true_eq_false, if_true, if_false, nI_add]) S.l.length (Nat.le_refl _)
        have key : xe XP (d + 14) 173 (78, [.ref m, .int (nI n), .int (nI 5), .int (oI (tS S.l S.s n)), .int (nI 0), .int (nI 0)], [], h1) = _ := key
        rw [key]
        simp (disch := first | assumption | omega) only [e_X8_key_78, e_X8_key_79, e_X8_key_80, e_X8_key_81, e_X8_key_82, e_X8_key_83, e_X8_key_98, e_X8_key_99, M1.f0, Option.bind_some, ld0, nI_leI, if_t]
      · subst e
        rw [show xsw [22, 26, 33, 35, 47, 76] 0 100 (nI 6) = 100 by decide]
        simp (disch := first | assumption | omega) only [e_X8_key_100, e_X8_key_101, e_X8_key_102, e_X8_key_103, q_blocksOnM M1 A1 L1 R1 G1 Mk1, xbk_i, if_true, if_false, show ¬ nI 6 = nI 0 by decide, show ¬ nI 6 = nI 1 by decide, show ¬ nI 6 = nI 2 by decide, show ¬ nI 6 = nI 3 by decide, show ¬ nI 6 = nI 4 by decide, show ¬ nI 6 = nI 5 by decide]
    · rw [if_pos rfl]
      refine ⟨h, ?_, K0, Same.refl _ _ _⟩
      have hw : ∀ z, z ≤ 6 → ¬ w = nI z := by
        intro z hz e
        subst e
        exact gw ⟨by rw [nI_leI (by decide) (by omega)]; omega, by rw [nI_leI (by omega) (by decide)]; omega⟩
      rw [if_neg (hw 0 (by omega)), if_neg (hw 1 (by omega)), if_neg (hw 2 (by omega)), if_neg (hw 3 (by omega)), if_neg (hw 4 (by omega)), if_neg (hw 5 (by omega)), if_neg (hw 6 (by omega))]
      have hIn : ∀ e, xc XP e 111 [.int w, .int (nI 0), .int (nI 6)] h = some (some (.int (bI false)), h) := fun e => by rw [q_in, decide_eq_false gw]
      simp (disch := first | assumption | omega) only [e_X8_key_0, e_X8_key_1, e_X8_key_2, e_X8_key_3, e_X8_key_4, e_X8_key_5, e_X8_key_6, e_X8_key_7, e_X8_key_8, e_X8_key_9, e_X8_key_10, e_X8_key_11, q_inK, hs, xbk_i, bI_0, Bool.true_eq_false, if_false, hIn, not_true]
end Md20R
