/-! THE MODEL: join -/
theorem pw_7 : ∀ u, u < 128 → (decide (¬ u = 0 ∧ u &&& (u - 1) = 0) = decide (pop7 u = 1)) := by decide
section Md22R
variable {h : XH} {m : Nat} {S : CS} {d : Nat} {cm ca lm ra nu nr mm nm : Int32} {l : List Rl} {σ : Sl}
theorem q_isFit2 {c v k : Nat} (hc : c < 128) (hv : v < 128) : xc XP d 121 [.int (nI (c + 128 * v)), .int (nI k)] h = some (some (.int (bI (decide ((k ^^^ v) &&& c = 0)))), h) := by
  have hd : (c + 128 * v) / 128 = v := by omega
  have hm : (c + 128 * v) &&& 127 = c := by
    have := Nat.and_two_pow_sub_one_eq_mod (c + 128 * v) 7
    rw [show 2 ^ 7 - 1 = 127 by decide] at this
    rw [this]
    omega
  rw [n_X8_isFit]
  simp (disch := first | assumption | omega) only [e_X8_isFit_0, e_X8_isFit_1, e_X8_isFit_2, e_X8_isFit_3, e_X8_isFit_4, e_X8_isFit_5, e_X8_isFit_6, e_X8_isFit_7, e_X8_isFit_8, e_X8_isFit_9, e_X8_isFit_10, e_X8_isFit_11, e_X8_isFit_12, e_X8_isFit_13, jdiv, hd, nx_xor, nx_and, Nat.and_assoc, hm, rk_0, rk_1, if_true]
  have hb : (v ^^^ k) &&& c < 2 ^ 31 := Nat.lt_of_le_of_lt Nat.and_le_right (by omega)
  rw [Nat.xor_comm] at hb ⊢
  simp only [nI_eq hb (show 0 < 2 ^ 31 by decide)]
  by_cases g : (k ^^^ v) &&& c = 0
  · rw [if_neg (by simp [g]), decide_eq_true g]; rfl
  · rw [if_pos g, decide_eq_false g]; rfl
theorem same_inner (B : Mb h m cm ca lm ra nu nr mm nm l σ) {f g u : Nat} {x : Nat × Nat} (hf : f < 16) (hg : g < 16) (hfg : f ≠ g) (hx : σ f = some x) {k : Nat} {was : Value} : ∀ (i : Nat) (w9 : Value), i ≤ 16 →
    ∃ w9', xe XP (d + 3) 170 (13, [.ref m, .int (nI f), .int (nI ((cX l x &&& (127 ^^^ u)) + 128 * (vX l x &&& (127 ^^^ u)))), .int (nI g), .int (ansR l (some x.1)), .int (nI k), was, .int (ansR l (rAt σ (fup (fitJ l σ f g u k) i (16 - i)))), .int (nI i + (-1)), w9], [], h) = xe XP (d + 3) 170 (66, [.ref m, .int (nI f), .int (nI ((cX l x &&& (127 ^^^ u)) + 128 * (vX l x &&& (127 ^^^ u)))), .int (nI g), .int (ansR l (some x.1)), .int (nI k), was, .int (ansR l (rAt σ (tJ l σ f g u k))), .int (-1), w9'], [], h) := by
  obtain ⟨M, F, G, A, L, R, hG, Mk⟩ := B
  have l1 := L.1
  have hc := cX_lt l x
  have hv := vX_lt l x
  have hc2 : cX l x &&& (127 ^^^ u) < 128 := Nat.lt_of_le_of_lt Nat.and_le_left hc
  have hv2 : vX l x &&& (127 ^^^ u) < 128 := Nat.lt_of_le_of_lt Nat.and_le_left hv
  intro i
  induction i with
  | zero =>
    intro w9 hi
    refine ⟨w9, ?_⟩
    have e0 : nI 0 + (-1) = (-1 : Int32) := by decide
    have e1 : tJ l σ f g u k = fup (fitJ l σ f g u k) 0 (16 - 0) := rfl
    rw [e0, e1, e_X8_isSame_13]
    simp only [e_X8_isSame_14, m1_lt0, if_true]
  | succ i ih =>
    intro w9 hi
    have hi16 : i < 16 := by omega
    have hfs : fup (fitJ l σ f g u k) i (16 - i) = if fitJ l σ f g u k i = true then some i else fup (fitJ l σ f g u k) (i + 1) (16 - (i + 1)) := by
      rw [show 16 - i = (16 - (i + 1)) + 1 by omega, fup_succ]
    rw [pk_m1]
    have pm := mg_ld hG Mk hi16
    by_cases q1 : i = f
    · subst q1
      obtain ⟨x1, x2, p1, p2⟩ := rs_some A R hi16 hx
      have hfit : fitJ l σ i g u k i = decide ((k ^^^ (vX l x &&& (127 ^^^ u))) &&& (cX l x &&& (127 ^^^ u)) = 0) := by
        unfold fitJ
        rw [if_neg hfg, if_pos rfl, hx]
      have qf := q_isFit2 (d := d + 2) (h := h) (k := k) hc2 hv2
      rw [← hfit] at qf
      obtain ⟨w9', ih⟩ := ih (.int (bI (fitJ l σ i g u k i))) (by omega)
      refine ⟨w9', ?_⟩
      rw [← ih, hfs]
      cases hb : fitJ l σ i g u k i with
      | true =>
        rw [hb] at qf
        have ha : rAt σ (some i) = some x.1 := by unfold rAt; simp [hx]
        rw [if_pos rfl, ha]
        rw [e_X8_isSame_13]
        simp (disch := first | assumption | omega) only [e_X8_isSame_14, e_X8_isSame_15, e_X8_isSame_16, e_X8_isSame_17, e_X8_isSame_18, e_X8_isSame_19, e_X8_isSame_20, e_X8_isSame_21, e_X8_isSame_42, e_X8_isSame_43, e_X8_isSame_44, e_X8_isSame_45, e_X8_isSame_46, e_X8_isSame_47, e_X8_isSame_48, e_X8_isSame_49, e_X8_isSame_50, e_X8_isSame_51, e_X8_isSame_63, e_X8_isSame_64, e_X8_isSame_65, nI_lt0, if_f, not_true, if_false, qf, xbk_i, bI_0, Bool.true_eq_false, not_false_eq_true, if_true]
      | false =>
        rw [hb] at qf
        rw [if_neg (by decide)]
        rw [e_X8_isSame_13]
        simp (disch := first | assumption | omega) only [e_X8_isSame_14, e_X8_isSame_15, e_X8_isSame_16, e_X8_isSame_17, e_X8_isSame_18, e_X8_isSame_19, e_X8_isSame_20, e_X8_isSame_21, e_X8_isSame_42, e_X8_isSame_43, e_X8_isSame_44, e_X8_isSame_45, e_X8_isSame_46, e_X8_isSame_63, e_X8_isSame_64, e_X8_isSame_65, nI_lt0, if_f, not_true, if_false, qf, xbk_i, bI_0, if_true]
    · have n1 : ¬ nI i = nI f := by rw [nI_eq (by omega) (by omega)]; exact q1
      by_cases q2 : i = g
      · subst q2
        have hfit : fitJ l σ f i u k i = false := by
          unfold fitJ
          rw [if_pos rfl]
        obtain ⟨w9', ih⟩ := ih (.int (nI 0)) (by omega)
        refine ⟨w9', ?_⟩
        rw [← ih, hfs, hfit, if_neg (by decide)]
        rw [e_X8_isSame_13]
        simp (disch := first | assumption | omega) only [e_X8_isSame_14, e_X8_isSame_15, e_X8_isSame_16, e_X8_isSame_17, e_X8_isSame_22, e_X8_isSame_23, e_X8_isSame_24, e_X8_isSame_41, e_X8_isSame_42, e_X8_isSame_43, e_X8_isSame_44, e_X8_isSame_45, e_X8_isSame_46, e_X8_isSame_63, e_X8_isSame_64, e_X8_isSame_65, nI_lt0, if_f, n1, not_true, not_false_eq_true, if_true, if_false]
      · have n2 : ¬ nI i = nI g := by rw [nI_eq (by omega) (by omega)]; exact q2
        have hfit : fitJ l σ f g u k i = fitS l σ k i := by
          unfold fitJ
          rw [if_neg q2, if_neg q1]
        obtain ⟨w9', ih⟩ := ih (.int (bI (fitS l σ k i))) (by omega)
        refine ⟨w9', ?_⟩
        rw [← ih, hfs, hfit]
        cases hy : σ i with
        | none =>
          have p1 := rs_none A R hi16 hy
          have hfs2 : fitS l σ k i = false := by unfold fitS; rw [hy]
          rw [hfs2, if_neg (by decide), bI_f]
          rw [e_X8_isSame_13]
          simp (disch := first | assumption | omega) only [e_X8_isSame_14, e_X8_isSame_15, e_X8_isSame_16, e_X8_isSame_17, e_X8_isSame_22, e_X8_isSame_23, e_X8_isSame_24, e_X8_isSame_25, e_X8_isSame_26, e_X8_isSame_27, e_X8_isSame_28, e_X8_isSame_29, e_X8_isSame_30, e_X8_isSame_31, e_X8_isSame_41, e_X8_isSame_42, e_X8_isSame_43, e_X8_isSame_44, e_X8_isSame_45, e_X8_isSame_46, e_X8_isSame_63, e_X8_isSame_64, e_X8_isSame_65, nI_lt0, if_f, n1, n2, not_true, not_false_eq_true, if_true, if_false, M.f0, Option.bind_some, nI_add, p1, m4_lt0]
        | some y =>
          obtain ⟨y1, y2, p1, p2⟩ := rs_some A R hi16 hy
          have hfs2 : fitS l σ k i = fitX l y k := by unfold fitS; rw [hy]
          have hya : rAt σ (some i) = some y.1 := by unfold rAt; simp [hy]
          have hans : F (65 + y.1) = nI (rlN l y.1).2.2.2.2 := (L.2.2.2 _ y1).2.2.2.2
          have pa := ra_ld A (65 + y.1) (by omega)
          rw [hans] at pa
          rw [hy] at pm
          have pm : xld h (m + 4) 0 (nI i) = some (nI (mk l y)) := pm
          have qf := q_isFit (d := d + 2) (l := l) (x := y) (k := k) (h := h)
          rw [hfs2]
          cases hb : fitX l y k with
          | true =>
            rw [hb] at qf
            rw [if_pos rfl, hya, bI_t]
            rw [e_X8_isSame_13]
            simp (disch := first | assumption | omega) only [e_X8_isSame_14, e_X8_isSame_15, e_X8_isSame_16, e_X8_isSame_17, e_X8_isSame_22, e_X8_isSame_23, e_X8_isSame_24, e_X8_isSame_25, e_X8_isSame_26, e_X8_isSame_27, e_X8_isSame_28, e_X8_isSame_29, e_X8_isSame_30, e_X8_isSame_31, e_X8_isSame_32, e_X8_isSame_33, e_X8_isSame_34, e_X8_isSame_35, e_X8_isSame_36, e_X8_isSame_37, e_X8_isSame_38, e_X8_isSame_39, e_X8_isSame_40, e_X8_isSame_42, e_X8_isSame_43, e_X8_isSame_44, e_X8_isSame_45, e_X8_isSame_46, e_X8_isSame_47, e_X8_isSame_48, e_X8_isSame_49, e_X8_isSame_52, e_X8_isSame_53, e_X8_isSame_54, e_X8_isSame_55, e_X8_isSame_56, e_X8_isSame_57, e_X8_isSame_58, e_X8_isSame_59, e_X8_isSame_60, e_X8_isSame_61, e_X8_isSame_62, e_X8_isSame_63, e_X8_isSame_64, e_X8_isSame_65, nI_lt0, if_f, n1, n2, not_true, not_false_eq_true, if_true, if_false, M.f0, M.f5, Option.bind_some, nI_add, p1, pm, qf, xbk_i, bI_0, Bool.true_eq_false, pa, show ¬ nI 1 = nI 0 by decide]
            rfl
          | false =>
            rw [hb] at qf
            rw [if_neg (by decide), bI_f]
            rw [e_X8_isSame_13]
            simp (disch := first | assumption | omega) only [e_X8_isSame_14, e_X8_isSame_15, e_X8_isSame_16, e_X8_isSame_17, e_X8_isSame_22, e_X8_isSame_23, e_X8_isSame_24, e_X8_isSame_25, e_X8_isSame_26, e_X8_isSame_27, e_X8_isSame_28, e_X8_isSame_29, e_X8_isSame_30, e_X8_isSame_31, e_X8_isSame_32, e_X8_isSame_33, e_X8_isSame_34, e_X8_isSame_35, e_X8_isSame_36, e_X8_isSame_37, e_X8_isSame_38, e_X8_isSame_41, e_X8_isSame_42, e_X8_isSame_43, e_X8_isSame_44, e_X8_isSame_45, e_X8_isSame_46, e_X8_isSame_63, e_X8_isSame_64, e_X8_isSame_65, nI_lt0, if_f, n1, n2, not_true, not_false_eq_true, if_true, if_false, M.f0, M.f5, Option.bind_some, nI_add, p1, pm, qf, xbk_i, bI_0]
theorem q_isSame (B : Mb h m cm ca lm ra nu nr mm nm l σ) {f g u : Nat} {x : Nat × Nat} (hf : f < 16) (hg : g < 16) (hfg : f ≠ g) (hx : σ f = some x) : xc XP (d + 3) 170 [.ref m, .int (nI f), .int (nI ((cX l x &&& (127 ^^^ u)) + 128 * (vX l x &&& (127 ^^^ u)))), .int (nI g), .int (ansR l (some x.1))] h = some (some (.int (bI (smJ l σ f g u))), h) := by
  have B0 := B
  obtain ⟨M, F, G, A, L, R, hG, Mk⟩ := B
  have c0 := M.k
  rw [n_X8_isSame]
  simp only [e_X8_isSame_0, e_X8_isSame_1]
  have key : ∀ (n k : Nat) (w6 w7 w8 w9 : Value), k + n = 128 → xe XP (d + 3) 170 (2, [.ref m, .int (nI f), .int (nI ((cX l x &&& (127 ^^^ u)) + 128 * (vX l x &&& (127 ^^^ u)))), .int (nI g), .int (ansR l (some x.1)), .int (nI k), w6, w7, w8, w9], [], h) = some (some (.int (bI (fup (fun k => !decide (ansR l (rAt σ (tJ l σ f g u k)) = ansR l (rAt σ (tS l σ k)))) k n).isNone)), h) := by
    intro n
    induction n with
    | zero =>
      intro k w6 w7 w8 w9 hk
      have hk : k = 128 := by omega
      subst hk
      simp (disch := first | assumption | omega) only [e_X8_isSame_2, e_X8_isSame_3, e_X8_isSame_4, e_X8_isSame_73, e_X8_isSame_74, nI_leI, if_t, rk_1, if_true]
      rfl
    | succ n ih =>
      intro k w6 w7 w8 w9 hk
      have q4 := q_tableAnswer (d := d) M A L R hG Mk (k := k)
      obtain ⟨w9', hin⟩ := same_inner (d := d) B0 (u := u) (k := k) (was := .int (ansR l (rAt σ (tS l σ k)))) hf hg hfg hx 16 w9 (Nat.le_refl _)
      have e15 : nI 16 + (-1) = nI 15 := by decide
      rw [e15] at hin
      have hin : xe XP (d + 3) 170 (13, [.ref m, .int (nI f), .int (nI ((cX l x &&& (127 ^^^ u)) + 128 * (vX l x &&& (127 ^^^ u)))), .int (nI g), .int (ansR l (some x.1)), .int (nI k), .int (ansR l (rAt σ (tS l σ k))), .int (-4), .int (nI 15), w9], [], h) = _ := hin
      rw [e_X8_isSame_2, fup_succ]
      by_cases q : ansR l (rAt σ (tJ l σ f g u k)) = ansR l (rAt σ (tS l σ k))
      · rw [decide_eq_true q, if_neg (by decide), ← ih (k + 1) (.int (ansR l (rAt σ (tS l σ k)))) (.int (ansR l (rAt σ (tJ l σ f g u k)))) (.int (-1)) w9' (by omega)]
        simp (disch := first | assumption | omega) only [e_X8_isSame_3, e_X8_isSame_4, e_X8_isSame_5, e_X8_isSame_6, e_X8_isSame_7, e_X8_isSame_8, e_X8_isSame_9, e_X8_isSame_10, e_X8_isSame_11, e_X8_isSame_12, e_X8_isSame_66, e_X8_isSame_67, e_X8_isSame_68, e_X8_isSame_71, e_X8_isSame_72, nI_leI, if_f, q4, xbk_i, hin, q, if_true, nI_add]
      · have q' : ¬ ansR l (rAt σ (tS l σ k)) = ansR l (rAt σ (tJ l σ f g u k)) := fun e => q e.symm
        rw [decide_eq_false q, if_pos (by decide)]
        simp (disch := first | assumption | omega) only [e_X8_isSame_3, e_X8_isSame_4, e_X8_isSame_5, e_X8_isSame_6, e_X8_isSame_7, e_X8_isSame_8, e_X8_isSame_9, e_X8_isSame_10, e_X8_isSame_11, e_X8_isSame_12, e_X8_isSame_66, e_X8_isSame_67, e_X8_isSame_68, e_X8_isSame_69, e_X8_isSame_70, nI_leI, if_f, q4, xbk_i, hin, q', if_false, rk_0, if_true]
        rfl
  rw [key 128 0 .null .null .null .null (by omega)]
  rfl
theorem q_joinM (K : Md h m S) (a b : Int32) : ∃ h', xc XP (d + 14) 171 [.ref m, .int a, .int b] h = some (some (.int (aJoin S a b)), h') ∧ Md h' m S ∧ Same h h' m (m + 13) := by
  have K0 := K
  obtain ⟨b0, ⟨ra, nu, nr, nm, M⟩, ⟨f, A, L, R⟩, -⟩ := K
  have c0 := M.k
  have l1 := L.1
  unfold aJoin
  rw [n_X8_join]
  cases ha : isSl a with
  | false =>
    refine ⟨h, ?_, K0, Same.refl _ _ _⟩
    simp (disch := first | assumption | omega) only [e_X8_join_0, e_X8_join_1, e_X8_join_2, e_X8_join_3, e_X8_join_4, e_X8_join_5, e_X8_join_6, e_X8_join_7, e_X8_join_8, e_X8_join_9, e_X8_join_10, q_isSlotM, ha, xbk_i, bI_f, if_true, Bool.false_eq_true, false_and, if_false]
  | true =>
    cases hb : isSl b with
    | false =>
      refine ⟨h, ?_, K0, Same.refl _ _ _⟩
      simp (disch := first | assumption | omega) only [e_X8_join_0, e_X8_join_1, e_X8_join_2, e_X8_join_3, e_X8_join_4, e_X8_join_5, e_X8_join_6, e_X8_join_7, e_X8_join_8, e_X8_join_9, e_X8_join_10, q_isSlotM, ha, hb, xbk_i, bI_0, if_true, Bool.false_eq_true, Bool.true_eq_false, false_and, and_false, if_false]
    | true =>
      by_cases hab : a = b
      · rw [if_neg (fun hh => hh.2.2 hab)]
        refine ⟨h, ?_, K0, Same.refl _ _ _⟩
        simp (disch := first | assumption | omega) only [e_X8_join_0, e_X8_join_1, e_X8_join_2, e_X8_join_3, e_X8_join_4, e_X8_join_5, e_X8_join_6, e_X8_join_7, e_X8_join_8, e_X8_join_9, e_X8_join_10, q_isSlotM, ha, hb, xbk_i, bI_0, Bool.true_eq_false, if_false, hab, not_true]
      · rw [if_pos ⟨rfl, rfl, hab⟩]
        obtain ⟨n, hn, rfl⟩ := isSl_of ha
        obtain ⟨k, hk, rfl⟩ := isSl_of hb
        have hnk : n ≠ k := fun e => hab (by rw [e])
        rw [xN_nI (by omega), xN_nI (by omega)]
        cases hx : S.s n with
        | none =>
          have q1 := rs_none A R hn hx
          refine ⟨h, ?_, K0, Same.refl _ _ _⟩
          simp (disch := first | assumption | omega) only [e_X8_join_0, e_X8_join_1, e_X8_join_2, e_X8_join_3, e_X8_join_4, e_X8_join_5, e_X8_join_6, e_X8_join_7, e_X8_join_8, e_X8_join_9, e_X8_join_10, e_X8_join_11, e_X8_join_12, e_X8_join_13, e_X8_join_14, e_X8_join_15, e_X8_join_16, e_X8_join_17, e_X8_join_18, e_X8_join_19, e_X8_join_20, e_X8_join_21, e_X8_join_22, e_X8_join_23, e_X8_join_24, e_X8_join_25, e_X8_join_26, q_isSlotM, ha, hb, xbk_i, bI_0, Bool.true_eq_false, if_false, hab, not_false_eq_true, if_true, M.f0, Option.bind_some, nI_add, q1, m4_lt0]
        | some x =>
          obtain ⟨x1, x2, q1, q2⟩ := rs_some A R hn hx
          cases hy : S.s k with
          | none =>
            have p1 := rs_none A R hk hy
            refine ⟨h, ?_, K0, Same.refl _ _ _⟩
            simp (disch := first | assumption | omega) only [e_X8_join_0, e_X8_join_1, e_X8_join_2, e_X8_join_3, e_X8_join_4, e_X8_join_5, e_X8_join_6, e_X8_join_7, e_X8_join_8, e_X8_join_9, e_X8_join_10, e_X8_join_11, e_X8_join_12, e_X8_join_13, e_X8_join_14, e_X8_join_15, e_X8_join_16, e_X8_join_17, e_X8_join_18, e_X8_join_19, e_X8_join_20, e_X8_join_21, e_X8_join_22, e_X8_join_23, e_X8_join_24, e_X8_join_25, e_X8_join_26, q_isSlotM, ha, hb, xbk_i, bI_0, Bool.true_eq_false, if_false, hab, not_false_eq_true, if_true, M.f0, Option.bind_some, nI_add, q1, p1, nI_lt0, if_f, m4_ge0]
          | some y =>
            obtain ⟨y1, y2, p1, p2⟩ := rs_some A R hk hy
            obtain ⟨h1, e1, KM, s1⟩ := q_lays (d := d + 9) K0
            have KM0 := KM
            obtain ⟨ra2, nu2, nr2, nm2, B⟩ := KM.mb
            obtain ⟨K1, ra', nu', nr', nm', f', g', M1, A1, L1, R1, G1, Mk1⟩ := KM
            have c1 := M1.k
            have q3 := mg_ld G1 Mk1 hn
            rw [hx] at q3
            have q3 : xld h1 (m + 4) 0 (nI n) = some (nI (mk S.l x)) := q3
            have p3 := mg_ld G1 Mk1 hk
            rw [hy] at p3
            have p3 : xld h1 (m + 4) 0 (nI k) = some (nI (mk S.l y)) := p3
            obtain ⟨-, -, q4, -⟩ := rs_some A1 R1 hn hx
            obtain ⟨-, -, p4, -⟩ := rs_some A1 R1 hk hy
            have q5 := ra_ld A1 (65 + x.1) (by omega)
            rw [(L1.2.2.2 _ x1).2.2.2.2] at q5
            have p5 := ra_ld A1 (65 + y.1) (by omega)
            rw [(L1.2.2.2 _ y1).2.2.2.2] at p5
            have vx := (L1.2.1 _ (rlN_mem x1)).2.2.2.2
            have vy := (L1.2.1 _ (rlN_mem y1)).2.2.2.2
            have mx := mk_lt S.l x
            have my := mk_lt S.l y
            have cx := cX_lt S.l x
            have cy := cX_lt S.l y
            have vvx := vX_lt S.l x
            have vvy := vX_lt S.l y
            have hu : vX S.l x ^^^ vX S.l y < 128 := Nat.xor_lt_two_pow (n := 7) vvx vvy
            have hpw := pw_7 _ hu
            generalize hU : vX S.l x ^^^ vX S.l y = U at hu hpw
            refine ⟨h1, ?_, K1, s1⟩
            have pre : xe XP (d + 14) 171 (0, [.ref m, .int (nI n), .int (nI k), .null, .null, .null, .null, .null, .null, .null], [], h) = xe XP (d + 14) 171 (62, [.ref m, .int (nI n), .int (nI k), .int (nI (cX S.l x)), .int (nI U), .int (nI (rlN S.l x.1).2.2.2.2), .null, .null, .null, .null], [], h1) := by
              simp (disch := first | assumption | omega) only [e_X8_join_0, e_X8_join_1, e_X8_join_2, e_X8_join_3, e_X8_join_4, e_X8_join_5, e_X8_join_6, e_X8_join_7, e_X8_join_8, e_X8_join_9, e_X8_join_10, e_X8_join_11, e_X8_join_12, e_X8_join_13, e_X8_join_14, e_X8_join_15, e_X8_join_16, e_X8_join_17, e_X8_join_18, e_X8_join_19, e_X8_join_20, e_X8_join_21, e_X8_join_22, e_X8_join_23, e_X8_join_24, e_X8_join_25, e_X8_join_26, e_X8_join_27, e_X8_join_28, e_X8_join_29, e_X8_join_30, e_X8_join_31, e_X8_join_32, e_X8_join_33, e_X8_join_34, e_X8_join_35, e_X8_join_36, e_X8_join_37, e_X8_join_38, e_X8_join_39, e_X8_join_40, e_X8_join_41, e_X8_join_42, e_X8_join_43, e_X8_join_44, e_X8_join_45, e_X8_join_46, e_X8_join_47, e_X8_join_48, e_X8_join_49, e_X8_join_50, e_X8_join_51, e_X8_join_52, e_X8_join_53, e_X8_join_54, e_X8_join_55, e_X8_join_56, e_X8_join_57, e_X8_join_58, e_X8_join_59, e_X8_join_60, e_X8_join_61, q_isSlotM, ha, hb, xbk_i, xbk_v, bI_0, Bool.true_eq_false, if_false, hab, not_false_eq_true, if_true, M.f0, M1.f0, M1.f5, Option.bind_some, nI_add, q1, p1, nI_lt0, nI_ge0, if_f, if_t, e1, q3, p3, nx_and, nx_xor, mk_m, mk_d, jdiv, q4, q5, hU]
            rw [pre]
            dsimp only
            have hue : uJ S.l x y = if cX S.l x = cX S.l y ∧ pop7 U = 1 then U else 0 := by unfold uJ; rw [hU]
            have hno : ∀ w6, w6 = nI 0 → xe XP (d + 14) 171 (94, [.ref m, .int (nI n), .int (nI k), .int (nI (cX S.l x)), .int (nI U), .int (nI (rlN S.l x.1).2.2.2.2), .null, .null, .null, .null], [.int w6], h1) = some (some (.int (nI 0)), h1) := by
              intro w6 e
              subst e
              simp only [e_X8_join_94, e_X8_join_95, e_X8_join_96, e_X8_join_97, e_X8_join_98, not_true, if_false]
            have hno := hno (nI 0) rfl
            by_cases g1 : (rlN S.l x.1).2.2.2.2 = (rlN S.l y.1).2.2.2.2
            · have g1' : ¬ ¬ ansR S.l (some x.1) = ansR S.l (some y.1) := fun hh => hh (by show nI _ = nI _; rw [g1])
              have g1n : nI (rlN S.l x.1).2.2.2.2 = nI (rlN S.l y.1).2.2.2.2 := by rw [g1]
              by_cases g2 : cX S.l x = cX S.l y
              · have g2n : nI (cX S.l x) = nI (cX S.l y) := by rw [g2]
                by_cases g3 : ¬ U = 0 ∧ U &&& (U - 1) = 0
                · rw [decide_eq_true g3] at hpw
                  have hp1 : pop7 U = 1 := of_decide_eq_true hpw.symm
                  rw [show uJ S.l x y = U by rw [hue, if_pos ⟨g2, hp1⟩], if_neg (fun hh => hh.elim g3.1 g1')]
                  have hU0 : ¬ nI U = nI 0 := by rw [nI_eq (by omega) (by omega)]; exact g3.1
                  have hUa : nI U &&& nI (U - 1) = nI 0 := by rw [nx_and, g3.2]
                  have hyes : xe XP (d + 14) 171 (62, [.ref m, .int (nI n), .int (nI k), .int (nI (cX S.l x)), .int (nI U), .int (nI (rlN S.l x.1).2.2.2.2), .null, .null, .null, .null], [], h1) = xe XP (d + 14) 171 (131, [.ref m, .int (nI n), .int (nI k), .int (nI (cX S.l x)), .int (nI U), .int (nI (rlN S.l x.1).2.2.2.2), .int (nI 1), .int (nI ((cX S.l x &&& (127 ^^^ U)) + 128 * (vX S.l x &&& (127 ^^^ U)))), .int (nI (min n k)), .int (nI (max n k))], [], h1) := by
                    by_cases gl : n < k
                    · rw [show min n k = n by omega, show max n k = n + k - n by omega]
                      simp (disch := first | assumption | omega) only [e_X8_join_62, e_X8_join_63, e_X8_join_64, e_X8_join_65, e_X8_join_66, e_X8_join_67, e_X8_join_68, e_X8_join_69, e_X8_join_70, e_X8_join_71, e_X8_join_72, e_X8_join_73, e_X8_join_74, e_X8_join_75, e_X8_join_76, e_X8_join_77, e_X8_join_78, e_X8_join_79, e_X8_join_80, e_X8_join_81, e_X8_join_82, e_X8_join_83, e_X8_join_84, e_X8_join_85, e_X8_join_86, e_X8_join_87, e_X8_join_88, e_X8_join_89, e_X8_join_90, e_X8_join_91, e_X8_join_92, e_X8_join_94, e_X8_join_95, e_X8_join_96, e_X8_join_99, e_X8_join_100, e_X8_join_101, e_X8_join_102, e_X8_join_103, e_X8_join_104, e_X8_join_105, e_X8_join_106, e_X8_join_107, e_X8_join_108, e_X8_join_109, e_X8_join_110, e_X8_join_111, e_X8_join_112, e_X8_join_113, e_X8_join_114, e_X8_join_115, e_X8_join_116, e_X8_join_117, e_X8_join_118, e_X8_join_119, e_X8_join_120, e_X8_join_121, e_X8_join_122, e_X8_join_124, e_X8_join_125, e_X8_join_126, e_X8_join_127, e_X8_join_128, e_X8_join_129, e_X8_join_130, M1.f0, M1.f5, Option.bind_some, nI_add, p4, p5, p3, q3, nx_and, mk_m, g1n, g2n, not_true, if_false, hU0, pk_sub, hUa, show ¬ nI 1 = nI 0 by decide, not_false_eq_true, if_true, not_n, jdiv, mk_d, pk_mul, nI_leI, if_f, g3.2]
                      rw [← g2]
                    · rw [show min n k = k by omega, show max n k = n + k - k by omega]
                      simp (disch := first | assumption | omega) only [e_X8_join_62, e_X8_join_63, e_X8_join_64, e_X8_join_65, e_X8_join_66, e_X8_join_67, e_X8_join_68, e_X8_join_69, e_X8_join_70, e_X8_join_71, e_X8_join_72, e_X8_join_73, e_X8_join_74, e_X8_join_75, e_X8_join_76, e_X8_join_77, e_X8_join_78, e_X8_join_79, e_X8_join_80, e_X8_join_81, e_X8_join_82, e_X8_join_83, e_X8_join_84, e_X8_join_85, e_X8_join_86, e_X8_join_87, e_X8_join_88, e_X8_join_89, e_X8_join_90, e_X8_join_91, e_X8_join_92, e_X8_join_94, e_X8_join_95, e_X8_join_96, e_X8_join_99, e_X8_join_100, e_X8_join_101, e_X8_join_102, e_X8_join_103, e_X8_join_104, e_X8_join_105, e_X8_join_106, e_X8_join_107, e_X8_join_108, e_X8_join_109, e_X8_join_110, e_X8_join_111, e_X8_join_112, e_X8_join_113, e_X8_join_114, e_X8_join_115, e_X8_join_116, e_X8_join_117, e_X8_join_118, e_X8_join_119, e_X8_join_120, e_X8_join_123, e_X8_join_124, e_X8_join_125, e_X8_join_126, e_X8_join_127, e_X8_join_128, e_X8_join_129, e_X8_join_130, M1.f0, M1.f5, Option.bind_some, nI_add, p4, p5, p3, q3, nx_and, mk_m, g1n, g2n, not_true, if_false, hU0, pk_sub, hUa, show ¬ nI 1 = nI 0 by decide, not_false_eq_true, if_true, not_n, jdiv, mk_d, pk_mul, nI_leI, if_t, g3.2]
                      rw [← g2]
                  rw [hyes]
                  have hyv : vX S.l y &&& (127 ^^^ U) = vX S.l x &&& (127 ^^^ U) := by
                    rw [← hU]
                    refine Nat.eq_of_testBit_eq fun i => ?_
                    simp only [Nat.testBit_and, Nat.testBit_xor]
                    by_cases g7 : i < 7
                    · rw [show (127 : Nat) = 2 ^ 7 - 1 by decide, Nat.testBit_two_pow_sub_one, decide_eq_true g7]
                      cases (vX S.l x).testBit i <;> cases (vX S.l y).testBit i <;> rfl
                    · have hp : 2 ^ 7 ≤ 2 ^ i := Nat.pow_le_pow_right (by decide) (by omega)
                      rw [Nat.testBit_lt_two_pow (x := vX S.l x) (Nat.lt_of_lt_of_le vvx hp), Nat.testBit_lt_two_pow (x := vX S.l y) (Nat.lt_of_lt_of_le vvy hp)]
                  have jx := q_isSame (d := d + 10) B (u := U) hn hk hnk hx
                  have jy := q_isSame (d := d + 10) B (u := U) hk hn (fun e => hnk e.symm) hy
                  rw [hyv, ← g2] at jy
                  have jx : _ = some (some (Value.int (bI (smJ S.l S.s n k U))), h1) := jx
                  have ea : ansR S.l (some y.1) = nI (rlN S.l x.1).2.2.2.2 := by show nI _ = nI _; rw [g1]
                  have eb : ansR S.l (some x.1) = nI (rlN S.l x.1).2.2.2.2 := rfl
                  rw [ea] at jy
                  rw [eb] at jx
                  by_cases gl : n < k
                  · rw [show min n k = n by omega, show max n k = k by omega]
                    cases z1 : smJ S.l S.s n k U with
                    | true =>
                      rw [z1] at jx
                      simp (disch := first | assumption | omega) only [e_X8_join_131, e_X8_join_132, e_X8_join_133, e_X8_join_134, e_X8_join_135, e_X8_join_136, e_X8_join_137, e_X8_join_138, e_X8_join_139, e_X8_join_150, jx, xbk_i, bI_0, Bool.true_eq_false, if_false, if_true]
                    | false =>
                      rw [z1] at jx
                      cases z2 : smJ S.l S.s k n U with
                      | true =>
                        rw [z2] at jy
                        simp (disch := first | assumption | omega) only [e_X8_join_131, e_X8_join_132, e_X8_join_133, e_X8_join_134, e_X8_join_135, e_X8_join_136, e_X8_join_137, e_X8_join_140, e_X8_join_141, e_X8_join_142, e_X8_join_143, e_X8_join_144, e_X8_join_145, e_X8_join_146, e_X8_join_147, e_X8_join_148, e_X8_join_150, jx, jy, xbk_i, bI_0, Bool.true_eq_false, Bool.false_eq_true, if_false, if_true]
                        rfl
                      | false =>
                        rw [z2] at jy
                        simp (disch := first | assumption | omega) only [e_X8_join_131, e_X8_join_132, e_X8_join_133, e_X8_join_134, e_X8_join_135, e_X8_join_136, e_X8_join_137, e_X8_join_140, e_X8_join_141, e_X8_join_142, e_X8_join_143, e_X8_join_144, e_X8_join_145, e_X8_join_146, e_X8_join_149, e_X8_join_150, jx, jy, xbk_i, bI_0, Bool.true_eq_false, Bool.false_eq_true, if_false, if_true]
                        rfl
                  · rw [show min n k = k by omega, show max n k = n by omega]
                    cases z1 : smJ S.l S.s k n U with
                    | true =>
                      rw [z1] at jy
                      simp (disch := first | assumption | omega) only [e_X8_join_131, e_X8_join_132, e_X8_join_133, e_X8_join_134, e_X8_join_135, e_X8_join_136, e_X8_join_137, e_X8_join_138, e_X8_join_139, e_X8_join_150, jy, xbk_i, bI_0, Bool.true_eq_false, if_false, if_true]
                    | false =>
                      rw [z1] at jy
                      cases z2 : smJ S.l S.s n k U with
                      | true =>
                        rw [z2] at jx
                        simp (disch := first | assumption | omega) only [e_X8_join_131, e_X8_join_132, e_X8_join_133, e_X8_join_134, e_X8_join_135, e_X8_join_136, e_X8_join_137, e_X8_join_140, e_X8_join_141, e_X8_join_142, e_X8_join_143, e_X8_join_144, e_X8_join_145, e_X8_join_146, e_X8_join_147, e_X8_join_148, e_X8_join_150, jx, jy, xbk_i, bI_0, Bool.true_eq_false, Bool.false_eq_true, if_false, if_true]
                        rfl
                      | false =>
                        rw [z2] at jx
                        simp (disch := first | assumption | omega) only [e_X8_join_131, e_X8_join_132, e_X8_join_133, e_X8_join_134, e_X8_join_135, e_X8_join_136, e_X8_join_137, e_X8_join_140, e_X8_join_141, e_X8_join_142, e_X8_join_143, e_X8_join_144, e_X8_join_145, e_X8_join_146, e_X8_join_149, e_X8_join_150, jx, jy, xbk_i, bI_0, Bool.true_eq_false, Bool.false_eq_true, if_false, if_true]
                        rfl
                · rw [decide_eq_false g3] at hpw
                  have hp1 : ¬ pop7 U = 1 := of_decide_eq_false hpw.symm
                  rw [show uJ S.l x y = 0 by rw [hue, if_neg (fun hh => hp1 hh.2)], if_pos (Or.inl rfl)]
                  by_cases g4 : U = 0
                  · subst g4
                    simp (disch := first | assumption | omega) only [e_X8_join_62, e_X8_join_63, e_X8_join_64, e_X8_join_65, e_X8_join_66, e_X8_join_67, e_X8_join_68, e_X8_join_69, e_X8_join_70, e_X8_join_71, e_X8_join_72, e_X8_join_73, e_X8_join_74, e_X8_join_75, e_X8_join_76, e_X8_join_77, e_X8_join_78, e_X8_join_79, e_X8_join_80, e_X8_join_81, e_X8_join_82, e_X8_join_83, e_X8_join_84, e_X8_join_93, M1.f0, M1.f5, Option.bind_some, nI_add, p4, p5, p3, nx_and, mk_m, g1n, g2n, not_true, if_false, eq_self, if_true]
                    rw [← g1n, ← g2n, hno]
                  · have hU0 : ¬ nI U = nI 0 := by rw [nI_eq (by omega) (by omega)]; exact g4
                    have hUa : ¬ nI (U &&& (U - 1)) = nI 0 := by
                      rw [nI_eq (Nat.lt_of_le_of_lt Nat.and_le_left (by omega)) (by omega)]
                      exact fun e => g3 ⟨g4, e⟩
                    simp (disch := first | assumption | omega) only [e_X8_join_62, e_X8_join_63, e_X8_join_64, e_X8_join_65, e_X8_join_66, e_X8_join_67, e_X8_join_68, e_X8_join_69, e_X8_join_70, e_X8_join_71, e_X8_join_72, e_X8_join_73, e_X8_join_74, e_X8_join_75, e_X8_join_76, e_X8_join_77, e_X8_join_78, e_X8_join_79, e_X8_join_80, e_X8_join_81, e_X8_join_82, e_X8_join_83, e_X8_join_84, e_X8_join_85, e_X8_join_86, e_X8_join_87, e_X8_join_88, e_X8_join_89, e_X8_join_90, e_X8_join_93, M1.f0, M1.f5, Option.bind_some, nI_add, p4, p5, p3, nx_and, mk_m, g1n, g2n, not_true, if_false, hU0, pk_sub, hUa, not_false_eq_true, if_true]
                    rw [← g1n, ← g2n, hno]
              · have g2n : ¬ nI (cX S.l x) = nI (cX S.l y) := by rw [nI_eq (by omega) (by omega)]; exact g2
                rw [show uJ S.l x y = 0 by rw [hue, if_neg (fun hh => g2 hh.1)], if_pos (Or.inl rfl)]
                simp (disch := first | assumption | omega) only [e_X8_join_62, e_X8_join_63, e_X8_join_64, e_X8_join_65, e_X8_join_66, e_X8_join_67, e_X8_join_68, e_X8_join_69, e_X8_join_70, e_X8_join_71, e_X8_join_72, e_X8_join_73, e_X8_join_74, e_X8_join_75, e_X8_join_76, e_X8_join_77, e_X8_join_78, e_X8_join_79, e_X8_join_80, e_X8_join_81, e_X8_join_82, e_X8_join_93, M1.f0, M1.f5, Option.bind_some, nI_add, p4, p5, p3, nx_and, mk_m, g1n, g2n, not_true, not_false_eq_true, if_true, if_false]
                rw [← g1n, hno]
            · have g1n : ¬ nI (rlN S.l x.1).2.2.2.2 = nI (rlN S.l y.1).2.2.2.2 := by rw [nI_eq (by omega) (by omega)]; exact g1
              rw [if_pos (show uJ S.l x y = 0 ∨ ¬ ansR S.l (some x.1) = ansR S.l (some y.1) from Or.inr g1n)]
              simp (disch := first | assumption | omega) only [e_X8_join_62, e_X8_join_63, e_X8_join_64, e_X8_join_65, e_X8_join_66, e_X8_join_67, e_X8_join_68, e_X8_join_69, e_X8_join_70, e_X8_join_71, e_X8_join_72, e_X8_join_73, e_X8_join_74, e_X8_join_93, M1.f0, Option.bind_some, nI_add, p4, p5, g1n, not_false_eq_true, if_true, hno]
end Md22R
