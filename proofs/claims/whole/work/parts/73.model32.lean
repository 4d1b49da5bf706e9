/-! THE MODEL: pack, move -/
section Md26R
variable {h : XH} {m : Nat} {S : CS} {d : Nat}
theorem rs_df {f f' : Nat → Int32} {l : List Rl} {a b : Sl} {s : Nat} (h16 : l.length ≤ 16) (h1 : rsIs f l s (a s)) (h2 : rsIs f' l s (b s)) : dfA a b s = (decide (¬ f (81 + s) < nI 0) && !(decide (f (81 + s) = f' (81 + s)) && decide (f (97 + s) = f' (97 + s)))) := by
  unfold dfA
  cases ha : a s with
  | none =>
    rw [ha] at h1
    have h1 : f (81 + s) = -4 := h1
    rw [h1, decide_eq_false (show ¬ ¬ (-4 : Int32) < nI 0 by decide)]
    rfl
  | some x =>
    rw [ha] at h1
    obtain ⟨a1, a2, a3, a4⟩ := h1
    have p1 : rwR (rlN l x.1) ≤ 6 := rwF_le 6 _ _
    rw [a3, a4, decide_eq_true (nI_lt0 (by omega))]
    cases hb : b s with
    | none =>
      rw [hb] at h2
      have h2 : f' (81 + s) = -4 := h2
      rw [h2, decide_eq_false (nI_n4 (n := x.1) (by omega))]
      simp
    | some y =>
      rw [hb] at h2
      obtain ⟨b1, b2, b3, b4⟩ := h2
      have p2 : rwR (rlN l y.1) ≤ 6 := rwF_le 6 _ _
      rw [b3, b4]
      simp only [Option.isSome_some, Bool.true_and]
      congr 1
      rw [← Bool.decide_and]
      apply decide_eq_decide.mpr
      rw [nI_eq (by omega) (by omega), nI_eq (by omega) (by omega)]
      constructor
      · intro e; cases e; exact ⟨rfl, rfl⟩
      · intro ⟨e1, e2⟩; rw [Prod.ext e1 e2]
theorem q_packM (K : Md h m S) (hd : dst S.l) (hA : allR S.l ≤ 16) : ∃ h', xc XP (d + 14) 158 [.ref m] h = some (some (.int (aPack S).1), h') ∧ Md h' m (aPack S).2 ∧ Same h h' m (m + 13) := by
  have K0 := K
  obtain ⟨⟨b1, b2, b3, b4, b5⟩, ⟨ra, nu, nr, nm, M⟩, ⟨f, A, L, R⟩, ⟨c, C, hC⟩, ⟨f3, F3⟩, ⟨g, G⟩, ⟨t, X, hX⟩, ⟨b, Bo⟩, ⟨T, T7⟩, ⟨F8, F9, M8, M9, hM⟩, ⟨F10, F11, M10, M11⟩, ⟨f12, M12⟩⟩ := K
  have h16 := L.1
  have key := loop_run (fun k => xe XP (d + 14) 158 (2, [.ref m, .int (nI k), .null], [], h.set (m + 3) (ia 113 (cpN f3 0 f k)))) 113 (by
    intro k hk
    show xe XP (d + 14) 158 (2, _, _, _) = xe XP (d + 14) 158 (2, _, _, _)
    have M' : MdO (h.set (m + 3) (ia 113 (cpN f3 0 f k))) m (nI S.sz) (nI S.nx) (nI S.tx.length) ra nu nr (nI S.ms.length) nm := M.set _ (by omega)
    have A' : (h.set (m + 3) (ia 113 (cpN f3 0 f k)))[m + 1]? = some (ia 113 f) := by rw [get_ne _ (by omega)]; exact A
    have C' : (h.set (m + 3) (ia 113 (cpN f3 0 f k)))[m + 3]? = some (ia 113 (cpN f3 0 f k)) := get_set F3 _
    have l1 := ra_ld A' k hk
    have w1 := xst_ia C' (by decide) (show k < 113 by omega) (f k)
    have hs := cpN_s f3 0 f k
    rw [Nat.zero_add] at hs
    rw [List.set_set, hs] at w1
    rw [e_X8_pack_2]
    simp (disch := first | assumption | omega) only [e_X8_pack_3, e_X8_pack_4, e_X8_pack_5, e_X8_pack_6, e_X8_pack_7, e_X8_pack_8, e_X8_pack_9, e_X8_pack_10, e_X8_pack_11, e_X8_pack_12, e_X8_pack_13, e_X8_pack_14, nI_leI, if_f, M'.f4, M'.f0, Option.bind_some, nI_add, l1, w1]) 113 (Nat.le_refl _)
  have key : xe XP (d + 14) 158 (2, [.ref m, .int (nI 0), .null], [], h.set (m + 3) (ia 113 (cpN f3 0 f 0))) = xe XP (d + 14) 158 (2, [.ref m, .int (nI 113), .null], [], h.set (m + 3) (ia 113 (cpN f3 0 f 113))) := key
  rw [cpN_0, set_self F3] at key
  generalize hh1 : h.set (m + 3) (ia 113 (cpN f3 0 f 113)) = h1 at key
  have C1 : h1[m + 3]? = some (ia 113 (cpN f3 0 f 113)) := by rw [← hh1]; exact get_set F3 _
  have s1 : Same h h1 (m + 3) (m + 4) := by rw [← hh1]; exact (Same.refl _ _ _).set (by omega) (by omega) _
  have M1 : MdO h1 m (nI S.sz) (nI S.nx) (nI S.tx.length) ra nu nr (nI S.ms.length) nm := by rw [← hh1]; exact M.set _ (by omega)
  have L1 : RwL (cpN f3 0 f 113) S.l := L.congr (fun k hk => by have := cpN_in (g := f3) (o := 0) (s := f) (k := 113) (i := k) (by omega); rw [Nat.zero_add] at this; exact this)
  have hPK := q_packsM (d := d + 11) C1 L1 hd hA
  unfold aPack
  rw [n_X8_pack]
  generalize pk S.l = P at hPK
  obtain ⟨h2, f2, e2, C2, L2, R2, s2⟩ := hPK
  have M2 : MdO h2 m (nI S.sz) (nI S.nx) (nI S.tx.length) ra nu nr (nI S.ms.length) nm := by unfold MdO; rw [s2.2 _ (by omega)]; exact M1
  have A2 : h2[m + 1]? = some (ia 113 f) := by rw [s2.2 _ (by omega), s1.2 _ (by omega)]; exact A
  have D2 : ∀ i, i ≠ m + 3 → h2[i]? = h[i]? := fun i hi => by rw [s2.2 _ (by omega), s1.2 _ (by omega)]
  have K2 : Md h2 m S := ⟨⟨b1, b2, b3, b4, b5⟩, ⟨ra, nu, nr, nm, M2⟩, ⟨f, A2, L, R⟩, ⟨c, by rw [D2 _ (by omega)]; exact C, hC⟩, ⟨f2, C2⟩, ⟨g, by rw [D2 _ (by omega)]; exact G⟩, ⟨t, by rw [D2 _ (by omega)]; exact X, hX⟩, ⟨b, by rw [D2 _ (by omega)]; exact Bo⟩, ⟨T, by rw [D2 _ (by omega)]; exact T7⟩, ⟨F8, F9, by rw [D2 _ (by omega)]; exact M8, by rw [D2 _ (by omega)]; exact M9, hM⟩, ⟨F10, F11, by rw [D2 _ (by omega)]; exact M10, by rw [D2 _ (by omega)]; exact M11⟩, ⟨f12, by rw [D2 _ (by omega)]; exact M12⟩⟩
  have key2 := loop_ct (fun s n => xe XP (d + 14) 158 (22, [.ref m, .int (nI n), .int (nI s)], [], h2)) (dfA P S.s) 16 (by
    intro s n hs hn
    show xe XP (d + 14) 158 (22, _, _, _) = xe XP (d + 14) 158 (22, _, _, _)
    have p1 := ra_ld C2 (81 + s) (by omega)
    have p2 := ra_ld C2 (97 + s) (by omega)
    have p3 := ra_ld A2 (81 + s) (by omega)
    have p4 := ra_ld A2 (97 + s) (by omega)
    rw [rs_df h16 (R2 s hs) (R s hs), e_X8_pack_22]
    by_cases g1 : f2 (81 + s) < nI 0
    · rw [decide_eq_false (fun hh => hh g1)]
      simp (disch := first | assumption | omega) only [e_X8_pack_23, e_X8_pack_24, e_X8_pack_25, e_X8_pack_26, e_X8_pack_27, e_X8_pack_28, e_X8_pack_29, e_X8_pack_30, e_X8_pack_31, e_X8_pack_32, e_X8_pack_33, e_X8_pack_34, e_X8_pack_35, e_X8_pack_36, e_X8_pack_37, e_X8_pack_38, e_X8_pack_39, e_X8_pack_40, e_X8_pack_41, e_X8_pack_42, e_X8_pack_43, e_X8_pack_44, e_X8_pack_45, e_X8_pack_46, e_X8_pack_47, e_X8_pack_48, e_X8_pack_49, e_X8_pack_50, e_X8_pack_51, e_X8_pack_52, e_X8_pack_53, e_X8_pack_54, e_X8_pack_55, e_X8_pack_56, e_X8_pack_57, e_X8_pack_58, e_X8_pack_59, e_X8_pack_60, e_X8_pack_61, e_X8_pack_62, e_X8_pack_63, e_X8_pack_64, e_X8_pack_65, nI_leI, if_f, M2.f4, M2.f0, Option.bind_some, nI_add, p1, g1, if_true, Bool.false_and, Bool.false_eq_true, if_false]
    · rw [decide_eq_true g1]
      by_cases g2 : f2 (81 + s) = f (81 + s)
      · rw [decide_eq_true g2]
        rw [g2] at g1 p1
        by_cases g3 : f2 (97 + s) = f (97 + s)
        · rw [decide_eq_true g3]
          rw [g3] at p2
          simp (disch := first | assumption | omega) only [e_X8_pack_23, e_X8_pack_24, e_X8_pack_25, e_X8_pack_26, e_X8_pack_27, e_X8_pack_28, e_X8_pack_29, e_X8_pack_30, e_X8_pack_31, e_X8_pack_32, e_X8_pack_33, e_X8_pack_34, e_X8_pack_35, e_X8_pack_36, e_X8_pack_37, e_X8_pack_38, e_X8_pack_39, e_X8_pack_40, e_X8_pack_41, e_X8_pack_42, e_X8_pack_43, e_X8_pack_44, e_X8_pack_45, e_X8_pack_46, e_X8_pack_47, e_X8_pack_48, e_X8_pack_49, e_X8_pack_50, e_X8_pack_51, e_X8_pack_52, e_X8_pack_53, e_X8_pack_54, e_X8_pack_55, e_X8_pack_56, e_X8_pack_57, e_X8_pack_58, e_X8_pack_59, e_X8_pack_60, e_X8_pack_61, e_X8_pack_62, e_X8_pack_63, e_X8_pack_64, e_X8_pack_65, nI_leI, if_f, M2.f4, M2.f0, Option.bind_some, nI_add, p1, p2, p3, p4, g1, if_false, not_true, if_true, Bool.and_self, Bool.not_true, Bool.and_false, Bool.false_eq_true]
        · rw [decide_eq_false g3]
          simp (disch := first | assumption | omega) only [e_X8_pack_23, e_X8_pack_24, e_X8_pack_25, e_X8_pack_26, e_X8_pack_27, e_X8_pack_28, e_X8_pack_29, e_X8_pack_30, e_X8_pack_31, e_X8_pack_32, e_X8_pack_33, e_X8_pack_34, e_X8_pack_35, e_X8_pack_36, e_X8_pack_37, e_X8_pack_38, e_X8_pack_39, e_X8_pack_40, e_X8_pack_41, e_X8_pack_42, e_X8_pack_43, e_X8_pack_44, e_X8_pack_45, e_X8_pack_46, e_X8_pack_47, e_X8_pack_48, e_X8_pack_49, e_X8_pack_50, e_X8_pack_51, e_X8_pack_52, e_X8_pack_53, e_X8_pack_54, e_X8_pack_55, e_X8_pack_56, e_X8_pack_57, e_X8_pack_58, e_X8_pack_59, e_X8_pack_60, e_X8_pack_61, e_X8_pack_62, e_X8_pack_63, e_X8_pack_64, e_X8_pack_65, nI_leI, if_f, M2.f4, M2.f0, Option.bind_some, nI_add, p1, p2, p3, p4, g1, g3, if_false, not_true, if_true, Bool.and_false, Bool.not_false, Bool.and_self]
      · rw [decide_eq_false g2]
        simp (disch := first | assumption | omega) only [e_X8_pack_23, e_X8_pack_24, e_X8_pack_25, e_X8_pack_26, e_X8_pack_27, e_X8_pack_28, e_X8_pack_29, e_X8_pack_30, e_X8_pack_31, e_X8_pack_32, e_X8_pack_33, e_X8_pack_34, e_X8_pack_35, e_X8_pack_36, e_X8_pack_37, e_X8_pack_38, e_X8_pack_39, e_X8_pack_40, e_X8_pack_41, e_X8_pack_42, e_X8_pack_43, e_X8_pack_44, e_X8_pack_45, e_X8_pack_46, e_X8_pack_47, e_X8_pack_48, e_X8_pack_49, e_X8_pack_50, e_X8_pack_51, e_X8_pack_52, e_X8_pack_53, e_X8_pack_54, e_X8_pack_55, e_X8_pack_56, e_X8_pack_57, e_X8_pack_58, e_X8_pack_59, e_X8_pack_60, e_X8_pack_61, e_X8_pack_62, e_X8_pack_63, e_X8_pack_64, e_X8_pack_65, nI_leI, if_f, M2.f4, M2.f0, Option.bind_some, nI_add, p1, p3, g1, g2, if_false, not_false_eq_true, if_true, Bool.false_and, Bool.not_false, Bool.and_self]) 16 (Nat.le_refl _)
  have key2 : xe XP (d + 14) 158 (22, [.ref m, .int (nI 0), .int (nI 0)], [], h2) = xe XP (d + 14) 158 (22, [.ref m, .int (nI (ct (dfA P S.s) 16)), .int (nI 16)], [], h2) := key2
  have hct := ct_le (dfA P S.s) 16
  have s02 : Same h h2 m (m + 13) := (s1.weak (by omega) (by omega)).trans (s2.weak (by omega) (by omega))
  have pre : xe XP (d + 14) 158 (0, [.ref m, .null, .null], [], h) = xe XP (d + 14) 158 (66, [.ref m, .int (nI (ct (dfA P S.s) 16)), .int (nI 16)], [], h2) := by
    simp only [e_X8_pack_0, e_X8_pack_1, key]
    simp (disch := first | assumption | omega) only [e_X8_pack_2, e_X8_pack_3, e_X8_pack_4, e_X8_pack_15, e_X8_pack_16, e_X8_pack_17, e_X8_pack_18, e_X8_pack_19, e_X8_pack_20, e_X8_pack_21, nI_leI, if_t, M1.f4, Option.bind_some, e2, xbk_v, key2]
    simp (disch := first | assumption | omega) only [e_X8_pack_22, e_X8_pack_23, e_X8_pack_24, nI_leI, if_t]
  rw [pre]
  by_cases hz : ct (dfA P S.s) 16 = 0
  · rw [if_pos hz, hz]
    refine ⟨h2, ?_, K2, s02⟩
    simp (disch := first | assumption | omega) only [e_X8_pack_66, e_X8_pack_67, e_X8_pack_85, e_X8_pack_86, nI_leI, if_t]
  · rw [if_neg hz]
    have c2 := M2.k
    obtain ⟨h3, r3, n3, q3, z3, e3, K3, M3, s3, a3⟩ := q_remembers (d := d + 13) K2
    have C3 : h3[m + 3]? = some (ia 113 f2) := by rw [s3.2 _ (by omega)]; exact C2
    have A3 : h3[m + 1]? = some (ia 113 f) := by rw [a3]; exact A2
    have key3 := loop_run (fun k => xe XP (d + 14) 158 (72, [.ref m, .int (nI (ct (dfA P S.s) 16)), .int (nI k)], [], h3.set (m + 1) (ia 113 (cpN f 0 f2 k)))) 113 (by
      intro k hk
      show xe XP (d + 14) 158 (72, _, _, _) = xe XP (d + 14) 158 (72, _, _, _)
      have M' : MdO (h3.set (m + 1) (ia 113 (cpN f 0 f2 k))) m (nI (min (S.sz + 1) 5)) (nI ((S.nx + 1) % 5)) (nI S.tx.length) r3 n3 q3 (nI S.ms.length) z3 := M3.set _ (by omega)
      have A' : (h3.set (m + 1) (ia 113 (cpN f 0 f2 k)))[m + 3]? = some (ia 113 f2) := by rw [get_ne _ (by omega)]; exact C3
      have C' : (h3.set (m + 1) (ia 113 (cpN f 0 f2 k)))[m + 1]? = some (ia 113 (cpN f 0 f2 k)) := get_set A3 _
      have l1 := xld_ia A' (by decide) hk
      have w1 := xst_ia C' (by decide) (show k < 113 by omega) (f2 k)
      have hs := cpN_s f 0 f2 k
      rw [Nat.zero_add] at hs
      rw [List.set_set, hs] at w1
      rw [e_X8_pack_72]
      simp (disch := first | assumption | omega) only [e_X8_pack_73, e_X8_pack_74, e_X8_pack_75, e_X8_pack_76, e_X8_pack_77, e_X8_pack_78, e_X8_pack_79, e_X8_pack_80, e_X8_pack_81, e_X8_pack_82, e_X8_pack_83, e_X8_pack_84, nI_leI, if_f, M'.f4, M'.f0, Option.bind_some, nI_add, l1, w1]) 113 (Nat.le_refl _)
    have key3 : xe XP (d + 14) 158 (72, [.ref m, .int (nI (ct (dfA P S.s) 16)), .int (nI 0)], [], h3.set (m + 1) (ia 113 (cpN f 0 f2 0))) = xe XP (d + 14) 158 (72, [.ref m, .int (nI (ct (dfA P S.s) 16)), .int (nI 113)], [], h3.set (m + 1) (ia 113 (cpN f 0 f2 113))) := key3
    rw [cpN_0, set_self A3] at key3
    generalize hh4 : h3.set (m + 1) (ia 113 (cpN f 0 f2 113)) = h4 at key3
    have A4 : h4[m + 1]? = some (ia 113 (cpN f 0 f2 113)) := by rw [← hh4]; exact get_set A3 _
    have s4 : Same h3 h4 (m + 1) (m + 2) := by rw [← hh4]; exact (Same.refl _ _ _).set (by omega) (by omega) _
    have cp : ∀ k, k < 113 → cpN f 0 f2 113 k = f2 k := fun k hk => by have := cpN_in (g := f) (o := 0) (s := f2) (k := 113) (i := k) hk; rw [Nat.zero_add] at this; exact this
    have K4 : Md h4 m (kpS S S.l P S.ms) := K3.setB A4 (L2.congr (fun k hk => cp k (by omega))) (R2.congr (fun k _ h2 => cp k h2)) s4
    refine ⟨h4, ?_, K4, (s02.trans (s3.weak (by omega) (by omega))).trans (s4.weak (by omega) (by omega))⟩
    simp (disch := first | assumption | omega) only [e_X8_pack_66, e_X8_pack_67, e_X8_pack_68, e_X8_pack_69, e_X8_pack_70, e_X8_pack_71, nI_leI, if_f, e3, xbk_v, key3]
    simp (disch := first | assumption | omega) only [e_X8_pack_72, e_X8_pack_73, e_X8_pack_74, e_X8_pack_85, e_X8_pack_86, nI_leI, if_t]
theorem q_moveM (K : Md h m S) (hd : dst S.l) (x y : Int32) : ∃ h', xc XP (d + 14) 160 [.ref m, .int x, .int y] h = some (some (.int (aMove S x y).1), h') ∧ Md h' m (aMove S x y).2 ∧ Same h h' m (m + 13) := by
  have K0 := K
  obtain ⟨-, ⟨ra, nu, nr, nm, M⟩, ⟨f, A, L, R⟩, -⟩ := K
  have c0 := M.k
  unfold aMove
  rw [n_X8_move]
  cases hx : isSl x with
  | false =>
    refine ⟨h, ?_, K0, Same.refl _ _ _⟩
    simp (disch := first | assumption | omega) only [e_X8_move_0, e_X8_move_1, e_X8_move_2, e_X8_move_3, e_X8_move_4, e_X8_move_5, e_X8_move_6, e_X8_move_7, q_isSlotM, hx, xbk_i, bI_f, if_true, Bool.false_eq_true, false_and, if_false]
  | true =>
    cases hy : isSl y with
    | false =>
      refine ⟨h, ?_, K0, Same.refl _ _ _⟩
      simp (disch := first | assumption | omega) only [e_X8_move_0, e_X8_move_1, e_X8_move_2, e_X8_move_3, e_X8_move_4, e_X8_move_5, e_X8_move_6, e_X8_move_7, q_isSlotM, hx, hy, xbk_i, bI_0, if_true, Bool.false_eq_true, Bool.true_eq_false, not_true, and_false, if_false]
    | true =>
      rw [if_pos ⟨rfl, rfl⟩]
      obtain ⟨a, ha, rfl⟩ := isSl_of hx
      obtain ⟨e, he, rfl⟩ := isSl_of hy
      rw [xN_nI (by omega), xN_nI (by omega)]
      obtain ⟨h1, e1, KM, s1⟩ := q_lays (d := d + 9) K0
      obtain ⟨ra1, nu1, nr1, nm1, B⟩ := KM.mb
      have c1 := B.1.k
      have qm := q_mayMove (d := d + 11) B hd ha he
      cases ho : opA S.l S.s a e with
      | false =>
        rw [ho] at qm
        refine ⟨h1, ?_, KM.1, s1⟩
        simp (disch := first | assumption | omega) only [e_X8_move_0, e_X8_move_1, e_X8_move_2, e_X8_move_3, e_X8_move_4, e_X8_move_5, e_X8_move_6, e_X8_move_7, e_X8_move_8, e_X8_move_9, e_X8_move_10, e_X8_move_11, e_X8_move_12, e_X8_move_13, e_X8_move_14, e_X8_move_15, e_X8_move_16, q_isSlotM, hx, hy, xbk_i, xbk_v, bI_0, Bool.true_eq_false, not_false_eq_true, if_true, if_false, e1, qm, not_true, Bool.false_eq_true]
      | true =>
        rw [ho] at qm
        obtain ⟨z, hz, hn, hne⟩ := opA_of ho
        obtain ⟨K1, ra2, nu2, nr2, nm2, f1, g1, M1, A1, L1, R1, G1, Mk1⟩ := KM
        obtain ⟨h2, r2, n2, q2, z2, e2, K2, M2, s2, a2⟩ := q_remembers (d := d + 13) K1
        have B2 : Mb h2 m (nI (min (S.sz + 1) 5)) (nI ((S.nx + 1) % 5)) (nI S.tx.length) r2 n2 q2 (nI S.ms.length) z2 S.l S.s := ⟨M2, f1, g1, by rw [a2]; exact A1, L1, R1, by rw [s2.2 _ (by omega)]; exact G1, Mk1⟩
        have c2 := M2.k
        obtain ⟨h3, e3, B3, D3⟩ := q_movesM (d := d + 13) B2 ha he hne hz
        have B30 := B3
        obtain ⟨M3, f3, g3, A3, L3, R3, G3, Mk3⟩ := B3
        have s3 : Same h2 h3 m (m + 13) := D3.same (fun i hi => by unfold NM at hi; omega)
        have K3 : Md h3 m (kpS S S.l (mvS S.s a e) S.ms) := by
          obtain ⟨b0, -, -, ⟨c, C, hC⟩, ⟨ff, F3⟩, -, ⟨t, X, hX⟩, ⟨b, Bo⟩, ⟨T, T7⟩, ⟨F8, F9, M8, M9, hM⟩, ⟨F10, F11, M10, M11⟩, ⟨f12, M12⟩⟩ := K2
          have D : ∀ i, i ≠ m + 1 → i ≠ m + 4 → h3[i]? = h2[i]? := fun i q1 q2 => D3.2 i (by unfold NM; omega)
          exact ⟨b0, ⟨r2, n2, q2, z2, M3⟩, ⟨f3, A3, L3, R3⟩, ⟨c, by rw [D _ (by omega) (by omega)]; exact C, hC⟩, ⟨ff, by rw [D _ (by omega) (by omega)]; exact F3⟩, ⟨g3, G3⟩, ⟨t, by rw [D _ (by omega) (by omega)]; exact X, hX⟩, ⟨b, by rw [D _ (by omega) (by omega)]; exact Bo⟩, ⟨T, by rw [D _ (by omega) (by omega)]; exact T7⟩, ⟨F8, F9, by rw [D _ (by omega) (by omega)]; exact M8, by rw [D _ (by omega) (by omega)]; exact M9, hM⟩, ⟨F10, F11, by rw [D _ (by omega) (by omega)]; exact M10, by rw [D _ (by omega) (by omega)]; exact M11⟩, ⟨f12, by rw [D _ (by omega) (by omega)]; exact M12⟩⟩
        rw [if_pos rfl]
        refine ⟨h3, ?_, K3, (s1.trans (s2.weak (by omega) (by omega))).trans s3⟩
        simp (disch := first | assumption | omega) only [e_X8_move_0, e_X8_move_1, e_X8_move_2, e_X8_move_3, e_X8_move_4, e_X8_move_5, e_X8_move_6, e_X8_move_7, e_X8_move_8, e_X8_move_9, e_X8_move_10, e_X8_move_11, e_X8_move_12, e_X8_move_13, e_X8_move_14, e_X8_move_15, e_X8_move_16, e_X8_move_17, e_X8_move_18, e_X8_move_19, e_X8_move_20, e_X8_move_21, e_X8_move_22, e_X8_move_23, e_X8_move_24, e_X8_move_25, e_X8_move_26, q_isSlotM, hx, hy, xbk_i, xbk_v, bI_0, Bool.true_eq_false, not_false_eq_true, if_true, if_false, e1, qm, e2, e3]
        have h16 := L.1
        have key := loop_ct (fun s n => xe XP (d + 14) 160 (27, [.ref m, .int (nI a), .int (nI e), .int (nI n), .int (nI s)], [], h3)) (fun s => (mvS S.s a e s).isSome && (decide (min a e + 1 ≤ s) && decide (s < max a e))) 16 (by
          intro s n hs hn
          show xe XP (d + 14) 160 (27, _, _, _) = xe XP (d + 14) 160 (27, _, _, _)
          rw [e_X8_move_27]
          cases hq : mvS S.s a e s with
          | none =>
            have p1 := rs_none A3 R3 hs hq
            simp (disch := first | assumption | omega) only [e_X8_move_28, e_X8_move_29, e_X8_move_30, e_X8_move_31, e_X8_move_32, e_X8_move_33, e_X8_move_34, e_X8_move_35, e_X8_move_36, e_X8_move_37, e_X8_move_38, e_X8_move_39, e_X8_move_40, e_X8_move_41, e_X8_move_42, e_X8_move_43, e_X8_move_44, e_X8_move_45, e_X8_move_46, e_X8_move_47, e_X8_move_48, e_X8_move_49, e_X8_move_50, e_X8_move_51, e_X8_move_52, e_X8_move_53, e_X8_move_54, e_X8_move_55, e_X8_move_56, nI_leI, if_f, M3.f0, Option.bind_some, nI_add, p1, m4_lt0, if_true, Option.isSome_none, Bool.false_and, Bool.false_eq_true, if_false]
          | some w =>
            obtain ⟨w1, w2, p1, p2⟩ := rs_some A3 R3 hs hq
            by_cases g1 : a < s ∧ s < e
            · rw [decide_eq_true (show min a e + 1 ≤ s by omega), decide_eq_true (show s < max a e by omega)]
              simp (disch := first | assumption | omega) only [e_X8_move_28, e_X8_move_29, e_X8_move_30, e_X8_move_31, e_X8_move_32, e_X8_move_33, e_X8_move_34, e_X8_move_35, e_X8_move_36, e_X8_move_37, e_X8_move_38, e_X8_move_39, e_X8_move_40, e_X8_move_41, e_X8_move_42, e_X8_move_43, e_X8_move_44, e_X8_move_45, e_X8_move_46, e_X8_move_47, e_X8_move_48, e_X8_move_49, e_X8_move_50, e_X8_move_51, e_X8_move_52, e_X8_move_53, e_X8_move_54, e_X8_move_55, e_X8_move_56, nI_leI, nI_ltI, if_f, if_t, M3.f0, Option.bind_some, nI_add, p1, nI_lt0, Option.isSome_some, Bool.and_self, if_true]
            · by_cases g2 : e < s ∧ s < a
              · rw [decide_eq_true (show min a e + 1 ≤ s by omega), decide_eq_true (show s < max a e by omega)]
                simp (disch := first | assumption | omega) only [e_X8_move_28, e_X8_move_29, e_X8_move_30, e_X8_move_31, e_X8_move_32, e_X8_move_33, e_X8_move_34, e_X8_move_35, e_X8_move_36, e_X8_move_37, e_X8_move_38, e_X8_move_39, e_X8_move_40, e_X8_move_41, e_X8_move_42, e_X8_move_43, e_X8_move_44, e_X8_move_45, e_X8_move_46, e_X8_move_47, e_X8_move_48, e_X8_move_49, e_X8_move_50, e_X8_move_51, e_X8_move_52, e_X8_move_53, e_X8_move_54, e_X8_move_55, e_X8_move_56, nI_leI, nI_ltI, if_f, if_t, M3.f0, Option.bind_some, nI_add, p1, nI_lt0, Option.isSome_some, Bool.and_self, if_true]
              · have hb : (decide (min a e + 1 ≤ s) && decide (s < max a e)) = false := by
                  rw [← Bool.decide_and]
                  exact decide_eq_false (by omega)
                rw [hb]
                by_cases g3 : s ≤ a
                · by_cases g4 : s ≤ e
                  · simp (disch := first | assumption | omega) only [e_X8_move_28, e_X8_move_29, e_X8_move_30, e_X8_move_31, e_X8_move_32, e_X8_move_33, e_X8_move_34, e_X8_move_35, e_X8_move_36, e_X8_move_37, e_X8_move_38, e_X8_move_39, e_X8_move_40, e_X8_move_41, e_X8_move_42, e_X8_move_43, e_X8_move_44, e_X8_move_45, e_X8_move_46, e_X8_move_47, e_X8_move_48, e_X8_move_49, e_X8_move_50, e_X8_move_51, e_X8_move_52, e_X8_move_53, e_X8_move_54, e_X8_move_55, e_X8_move_56, nI_leI, nI_ltI, if_f, if_t, M3.f0, Option.bind_some, nI_add, p1, nI_lt0, Bool.and_false, Bool.false_eq_true, if_false]
                  · simp (disch := first | assumption | omega) only [e_X8_move_28, e_X8_move_29, e_X8_move_30, e_X8_move_31, e_X8_move_32, e_X8_move_33, e_X8_move_34, e_X8_move_35, e_X8_move_36, e_X8_move_37, e_X8_move_38, e_X8_move_39, e_X8_move_40, e_X8_move_41, e_X8_move_42, e_X8_move_43, e_X8_move_44, e_X8_move_45, e_X8_move_46, e_X8_move_47, e_X8_move_48, e_X8_move_49, e_X8_move_50, e_X8_move_51, e_X8_move_52, e_X8_move_53, e_X8_move_54, e_X8_move_55, e_X8_move_56, nI_leI, nI_ltI, if_f, if_t, M3.f0, Option.bind_some, nI_add, p1, nI_lt0, Bool.and_false, Bool.false_eq_true, if_false]
                · by_cases g4 : s ≤ e
                  · simp (disch := first | assumption | omega) only [e_X8_move_28, e_X8_move_29, e_X8_move_30, e_X8_move_31, e_X8_move_32, e_X8_move_33, e_X8_move_34, e_X8_move_35, e_X8_move_36, e_X8_move_37, e_X8_move_38, e_X8_move_39, e_X8_move_40, e_X8_move_41, e_X8_move_42, e_X8_move_43, e_X8_move_44, e_X8_move_45, e_X8_move_46, e_X8_move_47, e_X8_move_48, e_X8_move_49, e_X8_move_50, e_X8_move_51, e_X8_move_52, e_X8_move_53, e_X8_move_54, e_X8_move_55, e_X8_move_56, nI_leI, nI_ltI, if_f, if_t, M3.f0, Option.bind_some, nI_add, p1, nI_lt0, Bool.and_false, Bool.false_eq_true, if_false]
                  · simp (disch := first | assumption | omega) only [e_X8_move_28, e_X8_move_29, e_X8_move_30, e_X8_move_31, e_X8_move_32, e_X8_move_33, e_X8_move_34, e_X8_move_35, e_X8_move_36, e_X8_move_37, e_X8_move_38, e_X8_move_39, e_X8_move_40, e_X8_move_41, e_X8_move_42, e_X8_move_43, e_X8_move_44, e_X8_move_45, e_X8_move_46, e_X8_move_47, e_X8_move_48, e_X8_move_49, e_X8_move_50, e_X8_move_51, e_X8_move_52, e_X8_move_53, e_X8_move_54, e_X8_move_55, e_X8_move_56, nI_leI, nI_ltI, if_f, if_t, M3.f0, Option.bind_some, nI_add, p1, nI_lt0, Bool.and_false, Bool.false_eq_true, if_false]) 16 (Nat.le_refl _)
        have key : xe XP (d + 14) 160 (27, [.ref m, .int (nI a), .int (nI e), .int (nI 0), .int (nI 0)], [], h3) = _ := key
        rw [key, ct_cut 16 (by omega)]
        simp (disch := first | assumption | omega) only [e_X8_move_27, e_X8_move_28, e_X8_move_29, e_X8_move_57, e_X8_move_58, nI_leI, if_t]
        rfl
end Md26R
