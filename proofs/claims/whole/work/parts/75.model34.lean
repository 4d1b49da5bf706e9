/-! THE MODEL: add, would -/
theorem tryO_1 {S : CS} {a b f t e : Int32} (hq : vrI a b f t e = none) : tryO S a b f t e = .inl (-1) := by unfold tryO; rw [hq]
theorem tryO_2 {S : CS} {a b f t e : Int32} {q : Rl} {j : Nat} (hq : vrI a b f t e = some q) (hN : nofR S.l q.1 = some j) : tryO S a b f t e = .inl (-2) := by unfold tryO; rw [hq]; simp [hN]
theorem tryO_3 {S : CS} {a b f t e : Int32} {q : Rl} (hq : vrI a b f t e = some q) (hN : nofR S.l q.1 = none) (ho : trS S.l S.s q = none) : tryO S a b f t e = .inl (-3) := by unfold tryO; rw [hq]; simp [hN, ho]
theorem tryO_4 {S : CS} {a b f t e : Int32} {q : Rl} {r : Sl × Mvs} (hq : vrI a b f t e = some q) (hN : nofR S.l q.1 = none) (ho : trS S.l S.s q = some r) : tryO S a b f t e = .inr (q, r.1, r.2) := by unfold tryO; rw [hq]; simp [hN, ho]
section Md28R
variable {h : XH} {m : Nat} {S : CS} {d : Nat} {cm ca lm ra nu nr mm nm : Int32}
theorem q_isRuleM {a b c e g : Int32} : xc XP (d + 1) 151 [.int a, .int b, .int c, .int e, .int g] h = some (some (.int (bI (vrI a b c e g).isSome)), h) := by
  have tail : ∀ hb : Bool, hb = hdI b → xe XP (d + 1) 151 (20, [.int a, .int b, .int c, .int e, .int g, .null], [.int (bI hb)], h) = some (some (.int (bI (vrI a b c e g).isSome)), h) := by
    intro hb ehb
    have le99 : ∀ (x : Int32) (n : Nat), n < 1000 → (x ≤ nI n ↔ x < nI (n + 1)) := by
      intro x n hn
      rw [Int32.le_iff_toInt_le, Int32.lt_iff_toInt_lt, nI_toInt (by omega), nI_toInt (by omega)]
      omega
    unfold vrI
    rw [← ehb]
    by_cases g1 : nI 0 ≤ a ∧ a ≤ nI 99
    · have g1' : nI 0 ≤ a ∧ a < nI 100 := ⟨g1.1, (le99 a 99 (by omega)).mp g1.2⟩
      cases hb with
      | false =>
        rw [if_neg (fun hh => by cases hh.2.1)]
        simp (disch := first | assumption | omega) only [e_X8_isRule_20, e_X8_isRule_21, e_X8_isRule_22, e_X8_isRule_23, e_X8_isRule_24, e_X8_isRule_25, e_X8_isRule_26, e_X8_isRule_27, e_X8_isRule_45, e_X8_isRule_46, q_in, xbk_i, decide_eq_true g1, bI_0, Bool.true_eq_false, if_false, if_true, rk_0, bI_f]
        rfl
      | true =>
        by_cases g2 : nI 0 ≤ c ∧ c ≤ nI 15
        · by_cases g3 : c ≤ e ∧ e ≤ nI 15
          · have g23 : spI c e = true := by unfold spI; exact decide_eq_true ⟨g2.1, g3.1, (le99 e 15 (by omega)).mp g3.2⟩
            by_cases g4 : nI 0 ≤ g ∧ g ≤ nI 9
            · rw [if_pos ⟨g1', rfl, g23, g4.1, (le99 g 9 (by omega)).mp g4.2⟩]
              simp (disch := first | assumption | omega) only [e_X8_isRule_20, e_X8_isRule_21, e_X8_isRule_22, e_X8_isRule_23, e_X8_isRule_24, e_X8_isRule_25, e_X8_isRule_26, e_X8_isRule_27, e_X8_isRule_28, e_X8_isRule_29, e_X8_isRule_30, e_X8_isRule_31, e_X8_isRule_32, e_X8_isRule_33, e_X8_isRule_34, e_X8_isRule_35, e_X8_isRule_36, e_X8_isRule_37, e_X8_isRule_38, e_X8_isRule_39, e_X8_isRule_40, e_X8_isRule_41, e_X8_isRule_42, e_X8_isRule_43, e_X8_isRule_44, e_X8_isRule_45, e_X8_isRule_46, q_in, xbk_i, decide_eq_true g1, decide_eq_true g2, decide_eq_true g3, decide_eq_true g4, bI_0, Bool.true_eq_false, if_false, if_true, rk_1]
              rfl
            · rw [if_neg (fun hh => g4 ⟨hh.2.2.2.1, (le99 g 9 (by omega)).mpr hh.2.2.2.2⟩)]
              simp (disch := first | assumption | omega) only [e_X8_isRule_20, e_X8_isRule_21, e_X8_isRule_22, e_X8_isRule_23, e_X8_isRule_24, e_X8_isRule_25, e_X8_isRule_26, e_X8_isRule_27, e_X8_isRule_28, e_X8_isRule_29, e_X8_isRule_30, e_X8_isRule_31, e_X8_isRule_32, e_X8_isRule_33, e_X8_isRule_34, e_X8_isRule_35, e_X8_isRule_36, e_X8_isRule_37, e_X8_isRule_38, e_X8_isRule_39, e_X8_isRule_40, e_X8_isRule_41, e_X8_isRule_42, e_X8_isRule_43, e_X8_isRule_44, e_X8_isRule_45, e_X8_isRule_46, q_in, xbk_i, decide_eq_true g1, decide_eq_true g2, decide_eq_true g3, decide_eq_false g4, bI_0, Bool.true_eq_false, if_false, if_true, rk_0]
              rfl
          · have g23 : ¬ spI c e = true := by
              unfold spI
              intro hh
              have hh := of_decide_eq_true hh
              exact g3 ⟨hh.2.1, (le99 e 15 (by omega)).mpr hh.2.2⟩
            rw [if_neg (fun hh => g23 hh.2.2.1)]
            simp (disch := first | assumption | omega) only [e_X8_isRule_20, e_X8_isRule_21, e_X8_isRule_22, e_X8_isRule_23, e_X8_isRule_24, e_X8_isRule_25, e_X8_isRule_26, e_X8_isRule_27, e_X8_isRule_28, e_X8_isRule_29, e_X8_isRule_30, e_X8_isRule_31, e_X8_isRule_32, e_X8_isRule_33, e_X8_isRule_34, e_X8_isRule_35, e_X8_isRule_36, e_X8_isRule_37, e_X8_isRule_38, e_X8_isRule_39, e_X8_isRule_40, e_X8_isRule_41, e_X8_isRule_42, e_X8_isRule_43, e_X8_isRule_44, e_X8_isRule_45, e_X8_isRule_46, q_in, xbk_i, decide_eq_true g1, decide_eq_true g2, decide_eq_false g3, bI_0, Bool.true_eq_false, if_false, if_true, rk_0]
            rfl
        · have g23 : ¬ spI c e = true := by
            unfold spI
            intro hh
            have hh := of_decide_eq_true hh
            exact g2 ⟨hh.1, (le99 c 15 (by omega)).mpr (Int32.lt_of_le_of_lt hh.2.1 hh.2.2)⟩
          rw [if_neg (fun hh => g23 hh.2.2.1)]
          simp (disch := first | assumption | omega) only [e_X8_isRule_20, e_X8_isRule_21, e_X8_isRule_22, e_X8_isRule_23, e_X8_isRule_24, e_X8_isRule_25, e_X8_isRule_26, e_X8_isRule_27, e_X8_isRule_28, e_X8_isRule_29, e_X8_isRule_30, e_X8_isRule_31, e_X8_isRule_32, e_X8_isRule_33, e_X8_isRule_34, e_X8_isRule_35, e_X8_isRule_36, e_X8_isRule_37, e_X8_isRule_38, e_X8_isRule_39, e_X8_isRule_40, e_X8_isRule_41, e_X8_isRule_42, e_X8_isRule_43, e_X8_isRule_44, e_X8_isRule_45, e_X8_isRule_46, q_in, xbk_i, decide_eq_true g1, decide_eq_false g2, bI_0, Bool.true_eq_false, if_false, if_true, rk_0]
          rfl
    · rw [if_neg (fun hh => g1 ⟨hh.1.1, (le99 a 99 (by omega)).mpr hh.1.2⟩)]
      simp (disch := first | assumption | omega) only [e_X8_isRule_20, e_X8_isRule_21, e_X8_isRule_22, e_X8_isRule_23, e_X8_isRule_24, e_X8_isRule_25, e_X8_isRule_45, e_X8_isRule_46, q_in, xbk_i, decide_eq_false g1, bI_0, if_true, rk_0]
      rfl
  rw [n_X8_isRule]
  by_cases g0 : nI 0 ≤ b ∧ b ≤ nI 222
  · have hIn : ∀ z, xc XP z 111 [.int b, .int (nI 0), .int (nI 222)] h = some (some (.int (bI true)), h) := fun z => by rw [q_in, decide_eq_true g0]
    obtain ⟨n, hn, rfl⟩ := nn_of g0.1
    have hn2 : n ≤ 222 := (nI_leI hn (by decide)).mp g0.2
    have hxn : xN (nI n) = n := xN_nI hn
    have d1 : n / 10 < 2 ^ 31 := by omega
    by_cases g1 : 3 ≤ n / 10 % 10
    · have t := tail false (by unfold hdI; rw [hxn]; exact (decide_eq_false (fun hh => by have := hh.2.2.1; omega)).symm)
      rw [bI_f] at t
      simp (disch := first | assumption | omega) only [e_X8_isRule_0, e_X8_isRule_1, e_X8_isRule_2, e_X8_isRule_3, e_X8_isRule_4, e_X8_isRule_5, e_X8_isRule_6, e_X8_isRule_7, e_X8_isRule_8, e_X8_isRule_9, e_X8_isRule_10, e_X8_isRule_11, e_X8_isRule_12, e_X8_isRule_13, e_X8_isRule_14, e_X8_isRule_15, e_X8_isRule_16, e_X8_isRule_17, e_X8_isRule_18, e_X8_isRule_19, hIn, xbk_i, bI_0, Bool.true_eq_false, if_false, jdiv, jrem, show ¬ nI 10 = 0 by decide, if_f, nI_leI, if_t, t]
    · by_cases g2 : 3 ≤ n % 10
      · have t := tail false (by unfold hdI; rw [hxn]; exact (decide_eq_false (fun hh => by have := hh.2.2.2; omega)).symm)
        rw [bI_f] at t
        simp (disch := first | assumption | omega) only [e_X8_isRule_0, e_X8_isRule_1, e_X8_isRule_2, e_X8_isRule_3, e_X8_isRule_4, e_X8_isRule_5, e_X8_isRule_6, e_X8_isRule_7, e_X8_isRule_8, e_X8_isRule_9, e_X8_isRule_10, e_X8_isRule_11, e_X8_isRule_12, e_X8_isRule_13, e_X8_isRule_14, e_X8_isRule_15, e_X8_isRule_16, e_X8_isRule_17, e_X8_isRule_18, e_X8_isRule_19, hIn, xbk_i, bI_0, Bool.true_eq_false, if_false, jdiv, jrem, show ¬ nI 10 = 0 by decide, if_f, nI_leI, if_t, t]
      · have t := tail true (by unfold hdI; rw [hxn]; exact (decide_eq_true ⟨g0.1, g0.2, by omega, by omega⟩).symm)
        rw [bI_t] at t
        simp (disch := first | assumption | omega) only [e_X8_isRule_0, e_X8_isRule_1, e_X8_isRule_2, e_X8_isRule_3, e_X8_isRule_4, e_X8_isRule_5, e_X8_isRule_6, e_X8_isRule_7, e_X8_isRule_8, e_X8_isRule_9, e_X8_isRule_10, e_X8_isRule_11, e_X8_isRule_12, e_X8_isRule_13, e_X8_isRule_14, e_X8_isRule_15, e_X8_isRule_16, e_X8_isRule_17, e_X8_isRule_18, e_X8_isRule_19, hIn, xbk_i, bI_0, Bool.true_eq_false, if_false, jdiv, jrem, show ¬ nI 10 = 0 by decide, if_f, nI_leI, if_t, t]
  · have t := tail false (by unfold hdI; exact (decide_eq_false (fun hh => g0 ⟨hh.1, hh.2.1⟩)).symm)
    rw [bI_f] at t
    simp (disch := first | assumption | omega) only [e_X8_isRule_0, e_X8_isRule_1, e_X8_isRule_2, e_X8_isRule_3, e_X8_isRule_4, e_X8_isRule_19, q_in, xbk_i, decide_eq_false g0, bI_0, if_true, t]
theorem q_putsBack {f fb : Nat → Int32} (M : MdO h m cm ca lm ra nu nr mm nm) (A : h[m + 1]? = some (ia 113 f)) (B : h[m + 12]? = some (ia 113 fb)) : ∃ h' f', xc XP d 150 [.ref m] h = some (none, h') ∧ h'[m + 1]? = some (ia 113 f') ∧ (∀ k, k < 113 → f' k = fb k) ∧ Same h h' (m + 1) (m + 2) := by
  have key := loop_run (fun k => xe XP d 150 (2, [.ref m, .int (nI k)], [], h.set (m + 1) (ia 113 (cpN f 0 fb k)))) 113 (by
    intro k hk
    show xe XP d 150 (2, _, _, _) = xe XP d 150 (2, _, _, _)
    have M' : MdO (h.set (m + 1) (ia 113 (cpN f 0 fb k))) m cm ca lm ra nu nr mm nm := M.set _ (by omega)
    have B' : (h.set (m + 1) (ia 113 (cpN f 0 fb k)))[m + 12]? = some (ia 113 fb) := by rw [get_ne _ (by omega)]; exact B
    have C' : (h.set (m + 1) (ia 113 (cpN f 0 fb k)))[m + 1]? = some (ia 113 (cpN f 0 fb k)) := get_set A _
    have l1 := xld_ia B' (by decide) hk
    have w1 := xst_ia C' (by decide) (show k < 113 by omega) (fb k)
    have hs := cpN_s f 0 fb k
    rw [Nat.zero_add] at hs
    rw [List.set_set, hs] at w1
    rw [e_X8_putsBack_2]
    simp (disch := first | assumption | omega) only [e_X8_putsBack_3, e_X8_putsBack_4, e_X8_putsBack_5, e_X8_putsBack_6, e_X8_putsBack_7, e_X8_putsBack_8, e_X8_putsBack_9, e_X8_putsBack_10, e_X8_putsBack_11, e_X8_putsBack_12, e_X8_putsBack_13, e_X8_putsBack_14, nI_leI, if_f, M'.f19, M'.f0, Option.bind_some, nI_add, l1, w1]) 113 (Nat.le_refl _)
  have key : xe XP d 150 (2, [.ref m, .int (nI 0)], [], h.set (m + 1) (ia 113 (cpN f 0 fb 0))) = xe XP d 150 (2, [.ref m, .int (nI 113)], [], h.set (m + 1) (ia 113 (cpN f 0 fb 113))) := key
  rw [cpN_0, set_self A] at key
  refine ⟨h.set (m + 1) (ia 113 (cpN f 0 fb 113)), cpN f 0 fb 113, ?_, get_set A _, fun k hk => (by have := cpN_in (g := f) (o := 0) (s := fb) (k := 113) (i := k) hk; rw [Nat.zero_add] at this; exact this), (Same.refl _ _ _).set (by omega) (by omega) _⟩
  rw [n_X8_putsBack]
  simp only [e_X8_putsBack_0, e_X8_putsBack_1, key]
  simp (disch := first | assumption | omega) only [e_X8_putsBack_2, e_X8_putsBack_3, e_X8_putsBack_4, e_X8_putsBack_15, nI_leI, if_t]
/-- the state, tried and put back -/
theorem Md.back {h' : XH} {ra nu nr nm : Int32} {fb g T : Nat → Int32} {f0 : Nat → Int32} (K : Md h m S) (D : Dif h h' (CQ m)) (M' : MdO h' m (nI S.sz) (nI S.nx) (nI S.tx.length) ra nu nr (nI S.ms.length) nm) (A' : h'[m + 1]? = some (ia 113 fb)) (L : RwL fb S.l) (R : RwS fb S.l S.s) (G : h'[m + 4]? = some (ia 16 g)) (T7 : h'[m + 7]? = some (ia 3 T)) (N : ∃ F1 F2, h'[m + 10]? = some (ia 48 F1) ∧ h'[m + 11]? = some (ia 48 F2)) (B : h'[m + 12]? = some (ia 113 f0)) : Md h' m S := by
  obtain ⟨b0, -, -, ⟨c, C, hC⟩, ⟨f3, F3⟩, -, ⟨t, X, hX⟩, ⟨b, Bo⟩, -, ⟨F8, F9, M8, M9, hM⟩, -, -⟩ := K
  have E : ∀ i, i = m + 2 ∨ i = m + 3 ∨ i = m + 5 ∨ i = m + 6 ∨ i = m + 8 ∨ i = m + 9 → h'[i]? = h[i]? := fun i hi => D.2 i (by unfold CQ; omega)
  exact ⟨b0, ⟨ra, nu, nr, nm, M'⟩, ⟨fb, A', L, R⟩, ⟨c, by rw [E _ (by omega)]; exact C, hC⟩, ⟨f3, by rw [E _ (by omega)]; exact F3⟩, ⟨g, G⟩, ⟨t, by rw [E _ (by omega)]; exact X, hX⟩, ⟨b, by rw [E _ (by omega)]; exact Bo⟩, ⟨T, T7⟩, ⟨F8, F9, by rw [E _ (by omega)]; exact M8, by rw [E _ (by omega)]; exact M9, hM⟩, N, ⟨f0, B⟩⟩
theorem CQ.in {i : Nat} (h : CQ m i) : m ≤ i ∧ i < m + 13 := by unfold CQ at h; omega
theorem q_wouldM (K : Md h m S) (hd : dst S.l) (hi : S.l.length ≤ rws S.s) (a b f t : Int32) : ∃ h', xc XP (d + 14) 153 [.ref m, .int a, .int b, .int f, .int t] h = some (some (.int (aWould S a b f t)), h') ∧ Md h' m S ∧ Same h h' m (m + 13) := by
  have K0 := K
  obtain ⟨b0, ⟨ra, nu, nr, nm, M⟩, ⟨f0, A, L, R⟩, -⟩ := K
  have c0 := M.k
  have h16 := L.1
  unfold aWould
  rw [n_X8_would]
  have qr := q_isRuleM (d := d + 12) (h := h) (a := a) (b := b) (c := f) (e := t) (g := nI 0)
  cases hq : vrI a b f t (nI 0) with
  | none =>
    rw [hq] at qr
    rw [tryO_1 hq]
    refine ⟨h, ?_, K0, Same.refl _ _ _⟩
    simp (disch := first | assumption | omega) only [e_X8_would_0, e_X8_would_1, e_X8_would_2, e_X8_would_3, e_X8_would_4, e_X8_would_5, e_X8_would_6, e_X8_would_7, e_X8_would_8, qr, xbk_i, Option.isSome_none, bI_f, not_true, if_false]
    rfl
  | some q =>
    rw [hq] at qr
    obtain ⟨v, rfl, rfl, rfl, rfl, he, g1, g2⟩ := vrI_some hq
    have hq0 := hq
    have v1 := v.1
    have v5 := v.2.2.2.2
    have q0 : q.2.2.2.2 = 0 := by rw [nI_eq (by omega) (by omega)] at he; omega
    have qo := q_ofRank (d := d + 13) A L (k := q.1) (by omega)
    cases hN : nofR S.l q.1 with
    | some j =>
      rw [hN] at qo
      have hj := nofR_some hN
      rw [tryO_2 hq hN]
      refine ⟨h, ?_, K0, Same.refl _ _ _⟩
      simp (disch := first | assumption | omega) only [e_X8_would_0, e_X8_would_1, e_X8_would_2, e_X8_would_3, e_X8_would_4, e_X8_would_5, e_X8_would_6, e_X8_would_7, e_X8_would_8, e_X8_would_9, e_X8_would_10, e_X8_would_11, e_X8_would_12, e_X8_would_13, e_X8_would_14, e_X8_would_15, qr, xbk_i, Option.isSome_some, bI_0, Bool.true_eq_false, not_false_eq_true, if_true, M.f0, Option.bind_some, qo, oI_some, nI_lt0, if_f, if_false]
      rfl
    | none =>
      rw [hN] at qo
      obtain ⟨h1, ra1, nu1, nr1, nm1, fb, f1, g1', T1, e1, M1, B1, Lb, Rb, A1, G1, T71, N1, R1, D1⟩ := q_comesRule (d := d + 8) K0 hd hi v hN
      rw [q0] at e1
      obtain ⟨h2, f2, e2, A2, p2, s2⟩ := q_putsBack (d := d + 13) M1 A1 B1
      have c1 := M1.k
      have M2 : MdO h2 m (nI S.sz) (nI S.nx) (nI S.tx.length) ra1 nu1 nr1 (nI S.ms.length) nm1 := by unfold MdO; rw [s2.2 _ (by omega)]; exact M1
      have D2 : Dif h h2 (CQ m) := D1.trans (s2.dif (fun i h1 h2 => by unfold CQ; omega))
      have K2 : Md h2 m S := K0.back D2 M2 A2 (Lb.congr (fun k hk => p2 k (by omega))) (Rb.congr (fun k _ hk => p2 k hk)) (by rw [s2.2 _ (by omega)]; exact G1) (by rw [s2.2 _ (by omega)]; exact T71) (by obtain ⟨F1, F2, Z1, Z2⟩ := N1; exact ⟨F1, F2, by rw [s2.2 _ (by omega)]; exact Z1, by rw [s2.2 _ (by omega)]; exact Z2⟩) (by rw [s2.2 _ (by omega)]; exact B1)
      refine ⟨h2, ?_, K2, D2.same (fun i hi => hi.in)⟩
      cases ho : trS S.l S.s q with
      | none =>
        rw [ho] at e1
        rw [tryO_3 hq hN ho]
        simp (disch := first | assumption | omega) only [e_X8_would_0, e_X8_would_1, e_X8_would_2, e_X8_would_3, e_X8_would_4, e_X8_would_5, e_X8_would_6, e_X8_would_7, e_X8_would_8, e_X8_would_9, e_X8_would_10, e_X8_would_11, e_X8_would_12, e_X8_would_13, e_X8_would_14, e_X8_would_15, e_X8_would_16, e_X8_would_17, e_X8_would_18, e_X8_would_19, e_X8_would_20, e_X8_would_21, e_X8_would_22, e_X8_would_23, e_X8_would_24, e_X8_would_25, e_X8_would_26, e_X8_would_27, e_X8_would_28, e_X8_would_29, e_X8_would_30, e_X8_would_31, e_X8_would_32, qr, xbk_i, xbk_v, Option.isSome_some, Option.isSome_none, bI_0, Bool.true_eq_false, not_false_eq_true, if_true, if_false, M.f0, Option.bind_some, qo, oI_none, m4_lt0, e1, e2, bI_f, Bool.false_eq_true]
        rfl
      | some r =>
        rw [ho] at e1
        obtain ⟨-, -, z3, -⟩ := R1 r ho
        rw [z3] at M2
        rw [tryO_4 hq hN ho]
        simp (disch := first | assumption | omega) only [e_X8_would_0, e_X8_would_1, e_X8_would_2, e_X8_would_3, e_X8_would_4, e_X8_would_5, e_X8_would_6, e_X8_would_7, e_X8_would_8, e_X8_would_9, e_X8_would_10, e_X8_would_11, e_X8_would_12, e_X8_would_13, e_X8_would_14, e_X8_would_15, e_X8_would_16, e_X8_would_17, e_X8_would_18, e_X8_would_19, e_X8_would_20, e_X8_would_21, e_X8_would_22, e_X8_would_23, e_X8_would_24, e_X8_would_25, e_X8_would_26, e_X8_would_27, e_X8_would_28, e_X8_would_29, e_X8_would_30, e_X8_would_31, e_X8_would_32, qr, xbk_i, xbk_v, Option.isSome_some, Option.isSome_none, bI_0, Bool.true_eq_false, not_false_eq_true, if_true, if_false, M.f0, M2.f16, Option.bind_some, qo, oI_none, m4_lt0, e1, e2, Bool.false_eq_true]
        rfl
theorem add_loop {F1 F2 : Nat → Int32} {n0 : Nat} (h48 : n0 ≤ 48) {a1 a2 a3 a4 a5 a6 : Value} : ∀ (n k : Nat) (h : XH) (F8 F9 : Nat → Int32), k + n = n0 → MdO h m cm ca lm ra nu nr mm (nI n0) → h[m + 8]? = some (ia 48 F8) → h[m + 9]? = some (ia 48 F9) → h[m + 10]? = some (ia 48 F1) → h[m + 11]? = some (ia 48 F2) → (∀ j, j < k → F8 j = F1 j ∧ F9 j = F2 j) →
    ∃ h' F8' F9', xe XP (d + 14) 152 (76, [.ref m, a1, a2, a3, a4, a5, a6, .int (nI k)], [], h) = some (some (.int mm), h') ∧ h'[m + 8]? = some (ia 48 F8') ∧ h'[m + 9]? = some (ia 48 F9') ∧ (∀ j, j < n0 → F8' j = F1 j ∧ F9' j = F2 j) ∧ Same h h' (m + 8) (m + 10) := by
  intro n
  induction n with
  | zero =>
    intro k h F8 F9 hk M e8 e9 e10 e11 hj
    have hk : k = n0 := by omega
    subst hk
    refine ⟨h, F8, F9, ?_, e8, e9, hj, Same.refl _ _ _⟩
    simp (disch := first | assumption | omega) only [e_X8_add_76, e_X8_add_77, e_X8_add_78, e_X8_add_79, e_X8_add_98, e_X8_add_99, e_X8_add_100, M.f16, M.f13, Option.bind_some, nI_leI, if_t]
  | succ n ih =>
    intro k h F8 F9 hk M e8 e9 e10 e11 hj
    have l1 := xld_ia e10 (by decide) (show k < 48 by omega)
    obtain ⟨h1, w1, E8, s1⟩ := ia_w e8 (by decide) (show k < 48 by omega) (F1 k)
    have M1 : MdO h1 m cm ca lm ra nu nr mm (nI n0) := by unfold MdO; rw [s1.2 _ (by omega)]; exact M
    have e9' : h1[m + 9]? = some (ia 48 F9) := by rw [s1.2 _ (by omega)]; exact e9
    have e11' : h1[m + 11]? = some (ia 48 F2) := by rw [s1.2 _ (by omega)]; exact e11
    have l2 := xld_ia e11' (by decide) (show k < 48 by omega)
    obtain ⟨h2, w2, E9, s2⟩ := ia_w e9' (by decide) (show k < 48 by omega) (F2 k)
    have M2 : MdO h2 m cm ca lm ra nu nr mm (nI n0) := by unfold MdO; rw [s2.2 _ (by omega)]; exact M1
    obtain ⟨h', F8', F9', e3, z8, z9, zj, s3⟩ := ih (k + 1) h2 _ _ (by omega) M2 (by rw [s2.2 _ (by omega)]; exact E8) E9 (by rw [s2.2 _ (by omega), s1.2 _ (by omega)]; exact e10) (by rw [s2.2 _ (by omega)]; exact e11') (fun j h1 => by
      by_cases g : j = k
      · subst g; rw [upd_s, upd_s]; exact ⟨rfl, rfl⟩
      · rw [upd_n g, upd_n g]; exact hj j (by omega))
    refine ⟨h', F8', F9', ?_, z8, z9, zj, ((s1.weak (by omega) (by omega)).trans (s2.weak (by omega) (by omega))).trans s3⟩
    rw [← e3, e_X8_add_76]
    simp (disch := first | assumption | omega) only [e_X8_add_77, e_X8_add_78, e_X8_add_79, e_X8_add_80, e_X8_add_81, e_X8_add_82, e_X8_add_83, e_X8_add_84, e_X8_add_85, e_X8_add_86, e_X8_add_87, e_X8_add_88, e_X8_add_89, e_X8_add_90, e_X8_add_91, e_X8_add_92, e_X8_add_93, e_X8_add_94, e_X8_add_95, e_X8_add_96, e_X8_add_97, M.f16, M.f14, M.f17, M1.f15, M1.f18, Option.bind_some, nI_leI, if_f, l1, w1, l2, w2, nI_add]
theorem q_addM (K : Md h m S) (hd : dst S.l) (hi : S.l.length ≤ rws S.s) (a b f t e : Int32) : ∃ h', xc XP (d + 14) 152 [.ref m, .int a, .int b, .int f, .int t, .int e] h = some (some (.int (aAdd S a b f t e).1), h') ∧ Md h' m (aAdd S a b f t e).2 ∧ Same h h' m (m + 13) := by
  have K0 := K
  obtain ⟨⟨b1, b2, b3, b4, b5⟩, ⟨ra, nu, nr, nm, M⟩, ⟨f0, A, L, R⟩, ⟨c, C, hC⟩, ⟨f3, F3⟩, ⟨g, G⟩, ⟨tt, X, hX⟩, ⟨bb, Bo⟩, ⟨T, T7⟩, ⟨F8, F9, M8, M9, hM⟩, ⟨F10, F11, M10, M11⟩, ⟨f12, M12⟩⟩ := K
  have c0 := M.k
  have h16 := L.1
  unfold aAdd
  rw [n_X8_add]
  have qr := q_isRuleM (d := d + 12) (h := h) (a := a) (b := b) (c := f) (e := t) (g := e)
  cases hq : vrI a b f t e with
  | none =>
    rw [hq] at qr
    rw [tryO_1 hq]
    refine ⟨h, ?_, K0, Same.refl _ _ _⟩
    simp (disch := first | assumption | omega) only [e_X8_add_0, e_X8_add_1, e_X8_add_2, e_X8_add_3, e_X8_add_4, e_X8_add_5, e_X8_add_6, e_X8_add_7, e_X8_add_8, qr, xbk_i, Option.isSome_none, bI_f, not_true, if_false]
  | some q =>
    rw [hq] at qr
    obtain ⟨v, rfl, rfl, rfl, rfl, rfl, g1, g2⟩ := vrI_some hq
    have v1 := v.1
    have v5 := v.2.2.2.2
    have qo := q_ofRank (d := d + 13) A L (k := q.1) (by omega)
    cases hN : nofR S.l q.1 with
    | some j =>
      rw [hN] at qo
      have hj := nofR_some hN
      rw [tryO_2 hq hN]
      refine ⟨h, ?_, K0, Same.refl _ _ _⟩
      simp (disch := first | assumption | omega) only [e_X8_add_0, e_X8_add_1, e_X8_add_2, e_X8_add_3, e_X8_add_4, e_X8_add_5, e_X8_add_6, e_X8_add_7, e_X8_add_8, e_X8_add_9, e_X8_add_10, e_X8_add_11, e_X8_add_12, e_X8_add_13, e_X8_add_14, e_X8_add_15, qr, xbk_i, Option.isSome_some, bI_0, Bool.true_eq_false, not_false_eq_true, if_true, M.f0, Option.bind_some, qo, oI_some, nI_lt0, if_f, if_false]
    | none =>
      rw [hN] at qo
      obtain ⟨h1, ra1, nu1, nr1, nm1, fb, f1, g1', T1, e1, M1, B1, Lb, Rb, A1, G1, T71, N1, R1, D1⟩ := q_comesRule (d := d + 8) K0 hd hi v hN
      have c1 := M1.k
      cases ho : trS S.l S.s q with
      | none =>
        rw [ho] at e1
        rw [tryO_3 hq hN ho]
        obtain ⟨h2, f2, e2, A2, p2, s2⟩ := q_putsBack (d := d + 13) M1 A1 B1
        have M2 : MdO h2 m (nI S.sz) (nI S.nx) (nI S.tx.length) ra1 nu1 nr1 (nI S.ms.length) nm1 := by unfold MdO; rw [s2.2 _ (by omega)]; exact M1
        have D2 : Dif h h2 (CQ m) := D1.trans (s2.dif (fun i h1 h2 => by unfold CQ; omega))
        have K2 : Md h2 m S := K0.back D2 M2 A2 (Lb.congr (fun k hk => p2 k (by omega))) (Rb.congr (fun k _ hk => p2 k hk)) (by rw [s2.2 _ (by omega)]; exact G1) (by rw [s2.2 _ (by omega)]; exact T71) (by obtain ⟨F1, F2, Z1, Z2⟩ := N1; exact ⟨F1, F2, by rw [s2.2 _ (by omega)]; exact Z1, by rw [s2.2 _ (by omega)]; exact Z2⟩) (by rw [s2.2 _ (by omega)]; exact B1)
        refine ⟨h2, ?_, K2, D2.same (fun i hi => hi.in)⟩
        simp (disch := first | assumption | omega) only [e_X8_add_0, e_X8_add_1, e_X8_add_2, e_X8_add_3, e_X8_add_4, e_X8_add_5, e_X8_add_6, e_X8_add_7, e_X8_add_8, e_X8_add_9, e_X8_add_10, e_X8_add_11, e_X8_add_12, e_X8_add_13, e_X8_add_14, e_X8_add_15, e_X8_add_16, e_X8_add_17, e_X8_add_18, e_X8_add_19, e_X8_add_20, e_X8_add_21, e_X8_add_22, e_X8_add_23, e_X8_add_24, e_X8_add_25, e_X8_add_26, e_X8_add_27, e_X8_add_28, e_X8_add_29, qr, xbk_i, xbk_v, Option.isSome_some, Option.isSome_none, bI_0, Bool.true_eq_false, not_false_eq_true, not_true, if_true, if_false, M.f0, Option.bind_some, qo, oI_none, m4_lt0, e1, e2, bI_f, Bool.false_eq_true]
      | some r =>
        rw [ho] at e1
        rw [tryO_4 hq hN ho]
        obtain ⟨L1, R1', z3, NL⟩ := R1 r ho
        subst z3
        have E : ∀ i, i = m + 2 ∨ i = m + 3 ∨ i = m + 5 ∨ i = m + 6 ∨ i = m + 8 ∨ i = m + 9 → h1[i]? = h[i]? := fun i hi => D1.2 i (by unfold CQ; omega)
        have C1 : h1[m + 2]? = some (ia 565 c) := by rw [E _ (by omega)]; exact C
        have key := loop_run (fun k => xe XP (d + 14) 152 (32, [.ref m, .int (nI q.1), .int (nI q.2.1), .int (nI q.2.2.1), .int (nI q.2.2.2.1), .int (nI q.2.2.2.2), .int (nI 1), .int (nI k)], [], h1.set (m + 2) (ia 565 (cpN c (113 * S.nx) fb k)))) 113 (by
          intro k hk
          show xe XP (d + 14) 152 (32, _, _, _) = xe XP (d + 14) 152 (32, _, _, _)
          have M' : MdO (h1.set (m + 2) (ia 565 (cpN c (113 * S.nx) fb k))) m (nI S.sz) (nI S.nx) (nI S.tx.length) ra1 nu1 nr1 (nI S.ms.length) (nI r.2.length) := M1.set _ (by omega)
          have B' : (h1.set (m + 2) (ia 565 (cpN c (113 * S.nx) fb k)))[m + 12]? = some (ia 113 fb) := by rw [get_ne _ (by omega)]; exact B1
          have C' : (h1.set (m + 2) (ia 565 (cpN c (113 * S.nx) fb k)))[m + 2]? = some (ia 565 (cpN c (113 * S.nx) fb k)) := get_set C1 _
          have l1 := xld_ia B' (by decide) hk
          have w1 := xst_ia C' (by decide) (show 113 * S.nx + k < 565 by omega) (fb k)
          rw [List.set_set, cpN_s] at w1
          rw [e_X8_add_32]
          simp (disch := first | assumption | omega) only [e_X8_add_33, e_X8_add_34, e_X8_add_35, e_X8_add_36, e_X8_add_37, e_X8_add_38, e_X8_add_39, e_X8_add_40, e_X8_add_41, e_X8_add_42, e_X8_add_43, e_X8_add_44, e_X8_add_45, e_X8_add_46, e_X8_add_47, e_X8_add_48, e_X8_add_49, nI_leI, if_f, M'.f1, M'.f3, M'.f19, Option.bind_some, pk_mul, nI_add, l1, w1]) 113 (Nat.le_refl _)
        have key : xe XP (d + 14) 152 (32, [.ref m, .int (nI q.1), .int (nI q.2.1), .int (nI q.2.2.1), .int (nI q.2.2.2.1), .int (nI q.2.2.2.2), .int (nI 1), .int (nI 0)], [], h1.set (m + 2) (ia 565 (cpN c (113 * S.nx) fb 0))) = xe XP (d + 14) 152 (32, [.ref m, .int (nI q.1), .int (nI q.2.1), .int (nI q.2.2.1), .int (nI q.2.2.2.1), .int (nI q.2.2.2.2), .int (nI 1), .int (nI 113)], [], h1.set (m + 2) (ia 565 (cpN c (113 * S.nx) fb 113))) := key
        rw [cpN_0, set_self C1] at key
        generalize hh2 : h1.set (m + 2) (ia 565 (cpN c (113 * S.nx) fb 113)) = h2 at key
        have C2 : h2[m + 2]? = some (ia 565 (cpN c (113 * S.nx) fb 113)) := by rw [← hh2]; exact get_set C1 _
        have s2 : Same h1 h2 (m + 2) (m + 3) := by rw [← hh2]; exact (Same.refl _ _ _).set (by omega) (by omega) _
        have M2 : MdO h2 m (nI S.sz) (nI S.nx) (nI S.tx.length) ra1 nu1 nr1 (nI S.ms.length) (nI r.2.length) := by rw [← hh2]; exact M1.set _ (by omega)
        obtain ⟨h3, e3, M3, s3⟩ := M2.w3 (nI ((S.nx + 1) % 5))
        obtain ⟨h4, e4, M4, s4⟩ := M3.w2 (nI (min (S.sz + 1) 5))
        obtain ⟨h5, e5, M5, s5⟩ := M4.w13 (nI r.2.length)
        have E5 : ∀ i, i ≠ m → i ≠ m + 2 → h5[i]? = h1[i]? := fun i q1 q2 => by rw [s5.2 _ (by omega), s4.2 _ (by omega), s3.2 _ (by omega), s2.2 _ (by omega)]
        obtain ⟨n48, F1, F2, Z1, Z2, Zj⟩ := NL
        obtain ⟨h6, F8', F9', e6, Z8, Z9, Zk, s6⟩ := add_loop (d := d) (F1 := F1) (F2 := F2) n48 (a1 := .int (nI q.1)) (a2 := .int (nI q.2.1)) (a3 := .int (nI q.2.2.1)) (a4 := .int (nI q.2.2.2.1)) (a5 := .int (nI q.2.2.2.2)) (a6 := .int (nI 1)) r.2.length 0 h5 F8 F9 (by omega) M5 (by rw [E5 _ (by omega) (by omega), E _ (by omega)]; exact M8) (by rw [E5 _ (by omega) (by omega), E _ (by omega)]; exact M9) (by rw [E5 _ (by omega) (by omega)]; exact Z1) (by rw [E5 _ (by omega) (by omega)]; exact Z2) (fun j hj => by omega)
        have M6 : MdO h6 m (nI (min (S.sz + 1) 5)) (nI ((S.nx + 1) % 5)) (nI S.tx.length) ra1 nu1 nr1 (nI r.2.length) (nI r.2.length) := by unfold MdO; rw [s6.2 _ (by omega)]; exact M5
        have E6 : ∀ i, i ≠ m → i ≠ m + 2 → i ≠ m + 8 → i ≠ m + 9 → h6[i]? = h1[i]? := fun i q1 q2 q3 q4 => by rw [s6.2 _ (by omega), E5 _ q1 q2]
        have hC2 := ring_keep (l' := S.l ++ [q]) (s' := r.1) (ms := r.2) b1 b2 hC Lb Rb
        have sA : Same h h6 m (m + 13) := (((((D1.same (fun i hi => hi.in)).trans (s2.weak (by omega) (by omega))).trans (s3.weak (by omega) (by omega))).trans (s4.weak (by omega) (by omega))).trans (s5.weak (by omega) (by omega))).trans (s6.weak (by omega) (by omega))
        refine ⟨h6, ?_, ⟨⟨by show (S.nx + 1) % 5 < 5; omega, by show min (S.sz + 1) 5 ≤ 5; omega, b3, b4, n48⟩, ⟨ra1, nu1, nr1, _, M6⟩, ⟨f1, by rw [E6 _ (by omega) (by omega) (by omega) (by omega)]; exact A1, L1, R1'⟩, ⟨_, by rw [s6.2 _ (by omega), s5.2 _ (by omega), s4.2 _ (by omega), s3.2 _ (by omega)]; exact C2, hC2⟩, ⟨f3, by rw [E6 _ (by omega) (by omega) (by omega) (by omega), E _ (by omega)]; exact F3⟩, ⟨g1', by rw [E6 _ (by omega) (by omega) (by omega) (by omega)]; exact G1⟩, ⟨tt, by rw [E6 _ (by omega) (by omega) (by omega) (by omega), E _ (by omega)]; exact X, hX⟩, ⟨bb, by rw [E6 _ (by omega) (by omega) (by omega) (by omega), E _ (by omega)]; exact Bo⟩, ⟨T1, by rw [E6 _ (by omega) (by omega) (by omega) (by omega)]; exact T71⟩, ⟨F8', F9', Z8, Z9, ?_⟩, ⟨F1, F2, by rw [E6 _ (by omega) (by omega) (by omega) (by omega)]; exact Z1, by rw [E6 _ (by omega) (by omega) (by omega) (by omega)]; exact Z2⟩, ⟨fb, by rw [E6 _ (by omega) (by omega) (by omega) (by omega)]; exact B1⟩⟩, sA⟩
        · have st : xe XP (d + 14) 152 (0, [.ref m, .int (nI q.1), .int (nI q.2.1), .int (nI q.2.2.1), .int (nI q.2.2.2.1), .int (nI q.2.2.2.2), .null, .null], [], h) = xe XP (d + 14) 152 (32, [.ref m, .int (nI q.1), .int (nI q.2.1), .int (nI q.2.2.1), .int (nI q.2.2.2.1), .int (nI q.2.2.2.2), .int (nI 1), .int (nI 0)], [], h1) := by
            simp (disch := first | assumption | omega) only [e_X8_add_0, e_X8_add_1, e_X8_add_2, e_X8_add_3, e_X8_add_4, e_X8_add_5, e_X8_add_6, e_X8_add_7, e_X8_add_8, e_X8_add_9, e_X8_add_10, e_X8_add_11, e_X8_add_12, e_X8_add_13, e_X8_add_14, e_X8_add_15, e_X8_add_16, e_X8_add_17, e_X8_add_18, e_X8_add_19, e_X8_add_20, e_X8_add_21, e_X8_add_22, e_X8_add_23, e_X8_add_24, e_X8_add_25, e_X8_add_30, e_X8_add_31, qr, xbk_i, xbk_v, Option.isSome_some, bI_0, bI_t, Bool.true_eq_false, show ¬ nI 1 = nI 0 by decide, not_false_eq_true, if_true, if_false, M.f0, Option.bind_some, qo, oI_none, m4_lt0, e1]
          rw [st, key]
          by_cases g5 : S.sz = 5
          · have e4' : xpf h3 m 8 2 (.int (nI (S.sz + 0))) = some h4 := by rw [show S.sz + 0 = min (S.sz + 1) 5 by omega]; exact e4
            simp (disch := first | assumption | omega) only [e_X8_add_32, e_X8_add_33, e_X8_add_34, e_X8_add_50, e_X8_add_51, e_X8_add_52, e_X8_add_53, e_X8_add_54, e_X8_add_55, e_X8_add_56, e_X8_add_57, e_X8_add_58, e_X8_add_59, e_X8_add_60, e_X8_add_61, e_X8_add_62, e_X8_add_63, e_X8_add_64, e_X8_add_67, e_X8_add_68, e_X8_add_69, e_X8_add_70, e_X8_add_71, e_X8_add_72, e_X8_add_73, e_X8_add_74, e_X8_add_75, nI_leI, if_t, M2.f3, M3.f2, M4.f16, Option.bind_some, md_rem, show ¬ nI 5 = 0 by decide, if_f, if_false, e3, nI_add, e4', e5, e6]
          · have e4' : xpf h3 m 8 2 (.int (nI (S.sz + 1))) = some h4 := by rw [show S.sz + 1 = min (S.sz + 1) 5 by omega]; exact e4
            simp (disch := first | assumption | omega) only [e_X8_add_32, e_X8_add_33, e_X8_add_34, e_X8_add_50, e_X8_add_51, e_X8_add_52, e_X8_add_53, e_X8_add_54, e_X8_add_55, e_X8_add_56, e_X8_add_57, e_X8_add_58, e_X8_add_59, e_X8_add_60, e_X8_add_61, e_X8_add_62, e_X8_add_63, e_X8_add_64, e_X8_add_65, e_X8_add_66, e_X8_add_68, e_X8_add_69, e_X8_add_70, e_X8_add_71, e_X8_add_72, e_X8_add_73, e_X8_add_74, e_X8_add_75, nI_leI, if_t, if_f, M2.f3, M3.f2, M4.f16, Option.bind_some, md_rem, show ¬ nI 5 = 0 by decide, if_false, e3, nI_add, e4', e5, e6]
        · intro j x hj
          have hj : r.2[j]? = some x := hj
          have hlt := (List.getElem?_eq_some_iff.mp hj).1
          obtain ⟨y1, y2⟩ := Zk j hlt
          obtain ⟨y3, y4⟩ := Zj j x hj
          exact ⟨y1.trans y3, y2.trans y4⟩
end Md28R
