/-! THE MODEL: write, slot -/
section Md19R
variable {h : XH} {m : Nat} {S : CS} {d : Nat}
theorem q_writeM (K : Md h m S) (x : Int32) : ∃ h', xc XP (d + 14) 128 [.ref m, .int x] h = some (some (.int (aWrite S x).1), h') ∧ Md h' m (aWrite S x).2 ∧ Same h h' m (m + 13) := by
  have K0 := K
  obtain ⟨⟨b1, b2, b3, b4, b5⟩, ⟨ra, nu, nr, nm, M⟩, ⟨f, A, L, R⟩, ⟨c, C, hC⟩, ⟨f3, F3⟩, ⟨g, G⟩, ⟨t, X, hX⟩, ⟨b, Bo⟩, ⟨T, T7⟩, ⟨F8, F9, M8, M9, hM⟩, ⟨F10, F11, M10, M11⟩, ⟨f12, M12⟩⟩ := K
  unfold aWrite
  rw [n_X8_write]
  by_cases g0 : nI 32 ≤ x ∧ x ≤ nI 126
  · rw [if_neg (fun hh => by
      rcases hh with hh | hh
      · exact absurd hh (Int32.not_lt.mpr g0.1)
      · exact absurd hh (Int32.not_lt.mpr g0.2))]
    by_cases g3 : 200 ≤ S.tx.length
    · have hl : S.tx.length = 200 := by omega
      have e7 := M.f7
      rw [hl] at e7
      rw [if_pos g3]
      refine ⟨h, ?_, K0, Same.refl _ _ _⟩
      simp (disch := first | assumption | omega) only [e_X8_write_0, e_X8_write_1, e_X8_write_2, e_X8_write_3, e_X8_write_4, e_X8_write_5, e_X8_write_6, e_X8_write_7, e_X8_write_8, e_X8_write_9, e_X8_write_10, e_X8_write_11, e_X8_write_12, q_in, xbk_i, decide_eq_true g0, bI_0, Bool.true_eq_false, not_false_eq_true, if_true, e7, Option.bind_some, not_true, if_false]
    · rw [if_neg g3]
      obtain ⟨n, hn, rfl⟩ := nn_of (x := x) (Int32.le_trans (by decide) g0.1)
      have hn2 : n ≤ 126 := (nI_leI hn (by decide)).mp g0.2
      rw [xN_nI hn]
      obtain ⟨h1, e1, X1, s1⟩ := ia_w X (by decide) (show S.tx.length < 200 by omega) (nI n)
      have M1 : MdO h1 m (nI S.sz) (nI S.nx) (nI S.tx.length) ra nu nr (nI S.ms.length) nm := by unfold MdO; rw [s1.2 _ (by omega)]; exact M
      obtain ⟨h2, e2, M2, s2⟩ := M1.w7 (nI (S.tx.length + 1))
      have D : ∀ i, i ≠ m → i ≠ m + 5 → h2[i]? = h[i]? := fun i hi1 hi2 => by rw [s2.2 _ (by omega), s1.2 _ (by omega)]
      have hl : (S.tx ++ [n]).length = S.tx.length + 1 := by simp
      refine ⟨h2, ?_, ⟨⟨b1, b2, by show (S.tx ++ [n]).length ≤ 200; omega, ?_, b5⟩, ⟨ra, nu, nr, nm, by rw [← hl] at M2; exact M2⟩, ⟨f, by rw [D _ (by omega) (by omega)]; exact A, L, R⟩, ⟨c, by rw [D _ (by omega) (by omega)]; exact C, hC⟩, ⟨f3, by rw [D _ (by omega) (by omega)]; exact F3⟩, ⟨g, by rw [D _ (by omega) (by omega)]; exact G⟩, ⟨_, by rw [s2.2 _ (by omega)]; exact X1, ?_⟩, ⟨b, by rw [D _ (by omega) (by omega)]; exact Bo⟩, ⟨T, by rw [D _ (by omega) (by omega)]; exact T7⟩, ⟨F8, F9, by rw [D _ (by omega) (by omega)]; exact M8, by rw [D _ (by omega) (by omega)]; exact M9, hM⟩, ⟨F10, F11, by rw [D _ (by omega) (by omega)]; exact M10, by rw [D _ (by omega) (by omega)]; exact M11⟩, ⟨f12, by rw [D _ (by omega) (by omega)]; exact M12⟩⟩, (s1.weak (by omega) (by omega)).trans (s2.weak (by omega) (by omega))⟩
      · have hne : ¬ nI S.tx.length = nI 200 := by rw [nI_eq (by omega) (by omega)]; omega
        simp (disch := first | assumption | omega) only [e_X8_write_0, e_X8_write_1, e_X8_write_2, e_X8_write_3, e_X8_write_4, e_X8_write_5, e_X8_write_6, e_X8_write_7, e_X8_write_8, e_X8_write_9, e_X8_write_10, e_X8_write_11, e_X8_write_12, e_X8_write_13, e_X8_write_14, e_X8_write_15, e_X8_write_16, e_X8_write_17, e_X8_write_18, e_X8_write_19, e_X8_write_20, e_X8_write_21, e_X8_write_22, e_X8_write_23, e_X8_write_24, e_X8_write_25, e_X8_write_26, e_X8_write_27, q_in, xbk_i, decide_eq_true g0, bI_0, Bool.true_eq_false, not_false_eq_true, if_true, M.f6, M.f7, M1.f7, M2.f7, Option.bind_some, hne, e1, nI_add, e2]
      · intro c hc
        have hc : c ∈ S.tx ++ [n] := hc
        rw [List.mem_append] at hc
        rcases hc with hc | hc
        · exact b4 c hc
        · rw [List.mem_singleton] at hc; omega
      · intro j c hj
        have hj : (S.tx ++ [n])[j]? = some c := hj
        by_cases q : j < S.tx.length
        · rw [List.getElem?_append_left q] at hj
          rw [upd_n (by omega)]
          exact hX j c hj
        · rw [List.getElem?_append_right (by omega)] at hj
          by_cases q2 : j = S.tx.length
          · subst q2
            rw [Nat.sub_self] at hj
            cases hj
            rw [upd_s]
          · rw [List.getElem?_eq_none (by simp; omega)] at hj
            cases hj
  · have hor : x < nI 32 ∨ nI 126 < x := by
      by_cases q : nI 32 ≤ x
      · exact Or.inr (Int32.not_le.mp (fun q2 => g0 ⟨q, q2⟩))
      · exact Or.inl (Int32.not_le.mp q)
    rw [if_pos hor]
    refine ⟨h, ?_, K0, Same.refl _ _ _⟩
    simp (disch := first | assumption | omega) only [e_X8_write_0, e_X8_write_1, e_X8_write_2, e_X8_write_3, e_X8_write_4, e_X8_write_5, e_X8_write_6, q_in, xbk_i, decide_eq_false g0, bI_f, not_true, if_false]
theorem sgA_sgK {l : List Rl} {x : Nat × Nat} (hv : vr (rlN l x.1)) (hp : x.2 < rwR (rlN l x.1)) : itr (fun j a => 10 * a + sgK (rlN l x.1) (tlN (rlN l x.1) x.2) j) 0 7 = sgA l x := by
  have v4 := hv.2.2.2.1
  have ht := tl_le hv hp
  have e : ∀ k, k < 7 → sgK (rlN l x.1) (tlN (rlN l x.1) x.2) k = sg1 (cX l x) (vX l x) (2 ^ (6 - k)) := fun k hk => sgK_eq hv (by omega) hk
  rw [itr_congr (g := fun j a => 10 * a + sg1 (cX l x) (vX l x) (2 ^ (6 - j))) (fun j a hj => by rw [e j hj])]
  show 10 * (10 * (10 * (10 * (10 * (10 * (10 * 0 + sg1 (cX l x) (vX l x) 64) + sg1 (cX l x) (vX l x) 32) + sg1 (cX l x) (vX l x) 16) + sg1 (cX l x) (vX l x) 8) + sg1 (cX l x) (vX l x) 4) + sg1 (cX l x) (vX l x) 2) + sg1 (cX l x) (vX l x) 1 = _
  unfold sgA
  omega
theorem q_slotM (K : Md h m S) (s w : Int32) : ∃ h', xc XP (d + 14) 167 [.ref m, .int s, .int w] h = some (some (.int (aSlot S s w)), h') ∧ Md h' m S ∧ Same h h' m (m + 13) := by
  have K0 := K
  obtain ⟨b0, ⟨ra, nu, nr, nm, M⟩, ⟨f, A, L, R⟩, -⟩ := K
  have c0 := M.k
  have l1 := L.1
  unfold aSlot
  rw [n_X8_slot]
  cases hs : isSl s with
  | false =>
    refine ⟨h, ?_, K0, Same.refl _ _ _⟩
    simp (disch := first | assumption | omega) only [e_X8_slot_0, e_X8_slot_1, e_X8_slot_2, e_X8_slot_3, e_X8_slot_4, e_X8_slot_5, e_X8_slot_6, e_X8_slot_7, e_X8_slot_8, e_X8_slot_9, q_isSlotM, hs, xbk_i, bI_f, if_true, Bool.false_eq_true, false_and, if_false]
  | true =>
    by_cases gw : nI 0 ≤ w ∧ w ≤ nI 3
    · rw [if_pos ⟨rfl, gw⟩]
      obtain ⟨n, hn, rfl⟩ := isSl_of hs
      rw [xN_nI (by omega)]
      cases hx : S.s n with
      | none =>
        have q1 := rs_none A R hn hx
        refine ⟨h, ?_, K0, Same.refl _ _ _⟩
        simp (disch := first | assumption | omega) only [e_X8_slot_0, e_X8_slot_1, e_X8_slot_2, e_X8_slot_3, e_X8_slot_4, e_X8_slot_5, e_X8_slot_6, e_X8_slot_7, e_X8_slot_8, e_X8_slot_9, e_X8_slot_10, e_X8_slot_11, e_X8_slot_12, e_X8_slot_13, e_X8_slot_14, e_X8_slot_15, e_X8_slot_16, e_X8_slot_17, e_X8_slot_18, q_isSlotM, hs, xbk_i, bI_0, Bool.true_eq_false, if_false, q_in, decide_eq_true gw, not_false_eq_true, if_true, M.f0, Option.bind_some, nI_add, q1, m4_ge0]
      | some x =>
        obtain ⟨x1, x2, q1, q2⟩ := rs_some A R hn hx
        obtain ⟨k, hk, rfl⟩ := nn_of gw.1
        have hk3 : k ≤ 3 := (nI_leI hk (by decide)).mp gw.2
        have hIn : ∀ e, xc XP e 111 [.int (nI k), .int (nI 0), .int (nI 3)] h = some (some (.int (bI true)), h) := fun e => by rw [q_in, decide_eq_true gw]
        by_cases k0 : k = 0
        · subst k0
          refine ⟨h, ?_, K0, Same.refl _ _ _⟩
          simp (disch := first | assumption | omega) only [e_X8_slot_0, e_X8_slot_1, e_X8_slot_2, e_X8_slot_3, e_X8_slot_4, e_X8_slot_5, e_X8_slot_6, e_X8_slot_7, e_X8_slot_8, e_X8_slot_9, e_X8_slot_10, e_X8_slot_11, e_X8_slot_12, e_X8_slot_13, e_X8_slot_14, e_X8_slot_15, e_X8_slot_16, e_X8_slot_17, e_X8_slot_18, e_X8_slot_19, e_X8_slot_20, e_X8_slot_21, e_X8_slot_22, e_X8_slot_23, e_X8_slot_24, e_X8_slot_25, e_X8_slot_26, e_X8_slot_27, e_X8_slot_28, e_X8_slot_29, e_X8_slot_30, e_X8_slot_31, e_X8_slot_32, e_X8_slot_33, e_X8_slot_34, e_X8_slot_35, e_X8_slot_36, e_X8_slot_37, q_isSlotM, hs, xbk_i, bI_0, Bool.true_eq_false, if_false, hIn, not_false_eq_true, not_true, if_true, M.f0, Option.bind_some, nI_add, q1, nI_ge0, if_t, if_f, nI_leI]
        by_cases k1 : k = 1
        · subst k1
          refine ⟨h, ?_, K0, Same.refl _ _ _⟩
          simp (disch := first | assumption | omega) only [e_X8_slot_0, e_X8_slot_1, e_X8_slot_2, e_X8_slot_3, e_X8_slot_4, e_X8_slot_5, e_X8_slot_6, e_X8_slot_7, e_X8_slot_8, e_X8_slot_9, e_X8_slot_10, e_X8_slot_11, e_X8_slot_12, e_X8_slot_13, e_X8_slot_14, e_X8_slot_15, e_X8_slot_16, e_X8_slot_17, e_X8_slot_18, e_X8_slot_19, e_X8_slot_20, e_X8_slot_21, e_X8_slot_22, e_X8_slot_23, e_X8_slot_24, e_X8_slot_25, e_X8_slot_26, e_X8_slot_27, e_X8_slot_28, e_X8_slot_29, e_X8_slot_30, e_X8_slot_31, e_X8_slot_32, e_X8_slot_33, e_X8_slot_34, e_X8_slot_35, e_X8_slot_36, e_X8_slot_37, q_isSlotM, hs, xbk_i, bI_0, Bool.true_eq_false, if_false, hIn, not_false_eq_true, not_true, if_true, M.f0, Option.bind_some, nI_add, q1, q2, nI_ge0, if_t, if_f, nI_leI, nI_eq]
        obtain ⟨h1, e1, ⟨K1, ra', nu', nr', nm', f', g', M1, A1, L1, R1, G1, Mk1⟩, s1⟩ := q_lays (d := d + 9) K0
        have c1 := M1.k
        obtain ⟨-, -, p1, p2⟩ := rs_some A1 R1 hn hx
        refine ⟨h1, ?_, K1, s1⟩
        have hv : vr (rlN S.l x.1) := L.2.1 _ (rlN_mem x1)
        by_cases k2 : k = 2
        · subst k2
          simp (disch := first | assumption | omega) only [e_X8_slot_0, e_X8_slot_1, e_X8_slot_2, e_X8_slot_3, e_X8_slot_4, e_X8_slot_5, e_X8_slot_6, e_X8_slot_7, e_X8_slot_8, e_X8_slot_9, e_X8_slot_10, e_X8_slot_11, e_X8_slot_12, e_X8_slot_13, e_X8_slot_14, e_X8_slot_15, e_X8_slot_16, e_X8_slot_17, e_X8_slot_18, e_X8_slot_19, e_X8_slot_20, e_X8_slot_21, e_X8_slot_22, e_X8_slot_23, e_X8_slot_24, e_X8_slot_25, e_X8_slot_26, e_X8_slot_27, e_X8_slot_28, e_X8_slot_29, e_X8_slot_30, e_X8_slot_31, e_X8_slot_32, e_X8_slot_33, e_X8_slot_34, e_X8_slot_35, e_X8_slot_36, e_X8_slot_37, e_X8_slot_38, e_X8_slot_39, e_X8_slot_40, e_X8_slot_41, e_X8_slot_42, e_X8_slot_43, q_isSlotM, hs, xbk_i, xbk_v, bI_0, Bool.true_eq_false, if_false, hIn, not_false_eq_true, if_true, M.f0, Option.bind_some, nI_add, q1, nI_ge0, if_t, nI_leI, e1]
          have key := loop_itr (fun j a => xe XP (d + 14) 167 (44, [.ref m, .int (nI n), .int (nI 2), .int (nI a), .int (nI j)], [], h1)) (fun j a => 10 * a + sgK (rlN S.l x.1) (tlN (rlN S.l x.1) x.2) j) 0 7 (by
            intro j hj
            generalize itr (fun j a => 10 * a + sgK (rlN S.l x.1) (tlN (rlN S.l x.1) x.2) j) 0 j = a
            show xe XP (d + 14) 167 (44, _, _, _) = xe XP (d + 14) 167 (44, _, _, _)
            rw [e_X8_slot_44]
            simp (disch := first | assumption | omega) only [e_X8_slot_45, e_X8_slot_46, e_X8_slot_47, e_X8_slot_48, e_X8_slot_49, e_X8_slot_50, e_X8_slot_51, e_X8_slot_52, e_X8_slot_53, e_X8_slot_54, e_X8_slot_55, e_X8_slot_56, e_X8_slot_57, e_X8_slot_58, e_X8_slot_59, e_X8_slot_60, e_X8_slot_61, e_X8_slot_62, e_X8_slot_63, e_X8_slot_64, e_X8_slot_65, e_X8_slot_66, e_X8_slot_67, e_X8_slot_68, e_X8_slot_69, e_X8_slot_70, e_X8_slot_71, e_X8_slot_72, nI_leI, if_f, not_true, if_false, M1.f0, Option.bind_some, nI_add, p1, p2, q_signOf A1 L1, xbk_i, pk_mul]) 7 (Nat.le_refl _)
          have key : xe XP (d + 14) 167 (44, [.ref m, .int (nI n), .int (nI 2), .int (nI 0), .int (nI 0)], [], h1) = _ := key
          rw [key, sgA_sgK hv x2]
          simp (disch := first | assumption | omega) only [e_X8_slot_44, e_X8_slot_45, e_X8_slot_46, e_X8_slot_73, e_X8_slot_74, e_X8_slot_75, e_X8_slot_76, e_X8_slot_77, e_X8_slot_78, e_X8_slot_79, e_X8_slot_80, e_X8_slot_94, e_X8_slot_95, nI_leI, if_t, if_f, nI_eq, if_true, if_false]
        · have k3 : k = 3 := by omega
          subst k3
          simp (disch := first | assumption | omega) only [e_X8_slot_0, e_X8_slot_1, e_X8_slot_2, e_X8_slot_3, e_X8_slot_4, e_X8_slot_5, e_X8_slot_6, e_X8_slot_7, e_X8_slot_8, e_X8_slot_9, e_X8_slot_10, e_X8_slot_11, e_X8_slot_12, e_X8_slot_13, e_X8_slot_14, e_X8_slot_15, e_X8_slot_16, e_X8_slot_17, e_X8_slot_18, e_X8_slot_19, e_X8_slot_20, e_X8_slot_21, e_X8_slot_22, e_X8_slot_23, e_X8_slot_24, e_X8_slot_25, e_X8_slot_26, e_X8_slot_27, e_X8_slot_28, e_X8_slot_29, e_X8_slot_30, e_X8_slot_31, e_X8_slot_32, e_X8_slot_33, e_X8_slot_34, e_X8_slot_35, e_X8_slot_36, e_X8_slot_37, e_X8_slot_38, e_X8_slot_39, e_X8_slot_40, e_X8_slot_41, e_X8_slot_42, e_X8_slot_43, e_X8_slot_44, e_X8_slot_45, e_X8_slot_46, e_X8_slot_47, e_X8_slot_48, e_X8_slot_49, e_X8_slot_73, e_X8_slot_74, q_isSlotM, hs, xbk_i, xbk_v, bI_0, Bool.true_eq_false, if_false, hIn, not_false_eq_true, if_true, M.f0, Option.bind_some, nI_add, q1, nI_ge0, if_t, if_f, nI_leI, nI_eq, e1]
          have key := loop_ct (fun j c => xe XP (d + 14) 167 (75, [.ref m, .int (nI n), .int (nI 3), .int (nI c), .int (nI j)], [], h1)) (fun k => decide (tS S.l S.s k = some n)) 128 (by
            intro j c hj hc
            show xe XP (d + 14) 167 (75, _, _, _) = xe XP (d + 14) 167 (75, _, _, _)
            have ho : (oI (tS S.l S.s j) = nI n) = (tS S.l S.s j = some n) := oI_eq (fun i hi => by have := (fup_some.mp hi).2.1; omega) (by omega)
            rw [e_X8_slot_75]
            by_cases q : tS S.l S.s j = some n
            · have hq : oI (tS S.l S.s j) = nI n := by rw [ho]; exact q
              rw [decide_eq_true q]
              simp (disch := first | assumption | omega) only [e_X8_slot_76, e_X8_slot_77, e_X8_slot_78, e_X8_slot_79, e_X8_slot_80, e_X8_slot_81, e_X8_slot_82, e_X8_slot_83, e_X8_slot_84, e_X8_slot_85, e_X8_slot_86, e_X8_slot_87, e_X8_slot_88, e_X8_slot_89, e_X8_slot_90, e_X8_slot_91, e_X8_slot_92, e_X8_slot_93, nI_leI, if_f, not_true, if_false, q_slotOf M1 A1 L1 R1 G1 Mk1, xbk_i, hq, if_true, nI_add]
            · have hq : ¬ oI (tS S.l S.s j) = nI n := by rw [ho]; exact q
              rw [decide_eq_false q]
              simp (disch := first | assumption | omega) only [e_X8_slot_76, e_X8_slot_77, e_X8_slot_78, e_X8_slot_79, e_X8_slot_80, e_X8_slot_81, e_X8_slot_82, e_X8_slot_83, e_X8_slot_84, e_X8_slot_85, e_X8_slot_86, e_X8_slot_87, e_X8_slot_88, e_X8_slot_89, e_X8_slot_90, e_X8_slot_91, e_X8_slot_92, e_X8_slot_93, nI_leI, if_f, not_true, if_false, q_slotOf M1 A1 L1 R1 G1 Mk1, xbk_i, hq, if_true, nI_add, not_false_eq_true, Bool.false_eq_true]) 128 (Nat.le_refl _)
          have key : xe XP (d + 14) 167 (75, [.ref m, .int (nI n), .int (nI 3), .int (nI 0), .int (nI 0)], [], h1) = _ := key
          rw [key]
          simp (disch := first | assumption | omega) only [e_X8_slot_75, e_X8_slot_76, e_X8_slot_77, e_X8_slot_94, e_X8_slot_95, nI_leI, if_t, if_f, nI_eq, if_true, if_false]
    · rw [if_neg (fun hh => gw hh.2)]
      refine ⟨h, ?_, K0, Same.refl _ _ _⟩
      simp (disch := first | assumption | omega) only [e_X8_slot_0, e_X8_slot_1, e_X8_slot_2, e_X8_slot_3, e_X8_slot_4, e_X8_slot_5, e_X8_slot_6, e_X8_slot_7, e_X8_slot_8, e_X8_slot_9, q_isSlotM, hs, xbk_i, bI_0, Bool.true_eq_false, if_false, q_in, decide_eq_false gw, not_true]
end Md19R
