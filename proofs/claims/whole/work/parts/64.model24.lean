/-! THE MODEL: reach -/
theorem fup_last {p : Nat → Bool} : ∀ n, fup p 0 (n + 1) = match fup p 0 n with | some s => some s | none => if p n = true then some n else none := by
  intro n
  cases hq : fup p 0 n with
  | some s =>
    obtain ⟨s1, s2, s3, s4⟩ := fup_some.mp hq
    exact fup_some.mpr ⟨s1, by omega, s3, s4⟩
  | none =>
    have h0 := fup_none.mp hq
    by_cases g : p n = true
    · simp only [g, if_true]
      exact fup_some.mpr ⟨by omega, by omega, g, fun j _ hj => h0 j (by omega) (by omega)⟩
    · simp only [g, if_false]
      refine fup_none.mpr (fun j _ hj => ?_)
      by_cases q : j = n
      · rw [q]; exact Bool.eq_false_iff.mpr g
      · exact h0 j (by omega) (by omega)
theorem fup_ct {p : Nat → Bool} : ∀ n, (ct p n = 0 ↔ fup p 0 n = none) := by
  intro n
  induction n with
  | zero => exact ⟨fun _ => rfl, fun _ => rfl⟩
  | succ n ih =>
    rw [fup_last]
    show ct p n + (if p n = true then 1 else 0) = 0 ↔ _
    cases hq : fup p 0 n with
    | some s =>
      have : ¬ ct p n = 0 := fun e => by rw [ih.mp e] at hq; cases hq
      simp; omega
    | none =>
      rw [ih.mpr hq]
      by_cases g : p n = true <;> simp [g]
theorem fdn_cut {p : Nat → Bool} {a b : Nat} (hb : b ≤ 16) : fdn (fun t => p t && (decide (a ≤ t) && decide (t < b))) 16 = fdn (fun t => decide (a ≤ t) && p t) b := by
  cases hq : fdn (fun t => decide (a ≤ t) && p t) b with
  | none =>
    refine fdn_none.mpr (fun j _ => ?_)
    by_cases g : j < b
    · have := fdn_none.mp hq j g
      rw [decide_eq_true g, Bool.and_true, Bool.and_comm]
      exact this
    · rw [decide_eq_false g]; simp
  | some s =>
    obtain ⟨s1, s2, s3⟩ := fdn_some.mp hq
    refine fdn_some.mpr ⟨by omega, ?_, fun j hj _ => ?_⟩
    · rw [decide_eq_true s1, Bool.and_true, Bool.and_comm]; exact s2
    · by_cases g : j < b
      · have := s3 j hj g
        rw [decide_eq_true g, Bool.and_true, Bool.and_comm]
        exact this
      · rw [decide_eq_false g]; simp
theorem ct_cut {p : Nat → Bool} {a b : Nat} : ∀ n, b ≤ n → ct (fun t => p t && (decide (a ≤ t) && decide (t < b))) n = ct (fun t => decide (a ≤ t) && p t) b := by
  intro n
  induction n with
  | zero => intro hb; rw [show b = 0 by omega]; rfl
  | succ n ih =>
    intro hb
    show ct (fun t => p t && (decide (a ≤ t) && decide (t < b))) n + (if (p n && (decide (a ≤ n) && decide (n < b))) = true then 1 else 0) = _
    by_cases g : b ≤ n
    · rw [ih g, decide_eq_false (show ¬ n < b by omega)]; simp
    · have hb : b = n + 1 := by omega
      subst hb
      rw [ct_congr (q := fun t => decide (a ≤ t) && p t) (fun j hj => by rw [decide_eq_true (show j < n + 1 by omega), Bool.and_true, Bool.and_comm])]
      show _ = ct (fun t => decide (a ≤ t) && p t) n + (if (decide (a ≤ n) && p n) = true then 1 else 0)
      rw [decide_eq_true (show n < n + 1 by omega), Bool.and_true, Bool.and_comm]
section Md18R
variable {h : XH} {m : Nat} {S : CS} {d : Nat}
theorem MdM.mb (K : MdM h m S) : ∃ ra nu nr nm, Mb h m (nI S.sz) (nI S.nx) (nI S.tx.length) ra nu nr (nI S.ms.length) nm S.l S.s := by
  obtain ⟨-, ra, nu, nr, nm, f, g, M, A, L, R, G, Mk⟩ := K
  exact ⟨ra, nu, nr, nm, M, f, g, A, L, R, G, Mk⟩
theorem q_reachM (K : Md h m S) (hd : dst S.l) (s w : Int32) : ∃ h', xc XP (d + 14) 168 [.ref m, .int s, .int w] h = some (some (.int (aReach S s w)), h') ∧ Md h' m S ∧ Same h h' m (m + 13) := by
  have K0 := K
  obtain ⟨b0, ⟨ra, nu, nr, nm, M⟩, ⟨f, A, L, R⟩, -⟩ := K
  have c0 := M.k
  have l1 := L.1
  unfold aReach
  rw [n_X8_reach]
  cases hs : isSl s with
  | false =>
    refine ⟨h, ?_, K0, Same.refl _ _ _⟩
    simp (disch := first | assumption | omega) only [e_X8_reach_0, e_X8_reach_1, e_X8_reach_2, e_X8_reach_3, e_X8_reach_4, e_X8_reach_5, e_X8_reach_6, e_X8_reach_7, e_X8_reach_8, e_X8_reach_9, q_isSlotM, hs, xbk_i, bI_f, if_true, Bool.false_eq_true, false_and, if_false]
  | true =>
    by_cases gw : nI 0 ≤ w ∧ w ≤ nI 2
    · rw [if_pos ⟨rfl, gw⟩]
      obtain ⟨n, hn, rfl⟩ := isSl_of hs
      rw [xN_nI (by omega)]
      cases hx : S.s n with
      | none =>
        have q1 := rs_none A R hn hx
        refine ⟨h, ?_, K0, Same.refl _ _ _⟩
        simp (disch := first | assumption | omega) only [e_X8_reach_0, e_X8_reach_1, e_X8_reach_2, e_X8_reach_3, e_X8_reach_4, e_X8_reach_5, e_X8_reach_6, e_X8_reach_7, e_X8_reach_8, e_X8_reach_9, e_X8_reach_10, e_X8_reach_11, e_X8_reach_12, e_X8_reach_13, e_X8_reach_14, e_X8_reach_15, e_X8_reach_16, e_X8_reach_17, e_X8_reach_18, q_isSlotM, hs, xbk_i, bI_0, Bool.true_eq_false, if_false, q_in, decide_eq_true gw, not_false_eq_true, if_true, M.f0, Option.bind_some, nI_add, q1, m4_ge0]
      | some x =>
        obtain ⟨x1, x2, q1, q2⟩ := rs_some A R hn hx
        obtain ⟨h1, e1, KM, s1⟩ := q_lays (d := d + 9) K0
        obtain ⟨ra', nu', nr', nm', B⟩ := KM.mb
        have c1 := B.1.k
        refine ⟨h1, ?_, KM.1, s1⟩
        simp (disch := first | assumption | omega) only [e_X8_reach_0, e_X8_reach_1, e_X8_reach_2, e_X8_reach_3, e_X8_reach_4, e_X8_reach_5, e_X8_reach_6, e_X8_reach_7, e_X8_reach_8, e_X8_reach_9, e_X8_reach_10, e_X8_reach_11, e_X8_reach_12, e_X8_reach_13, e_X8_reach_14, e_X8_reach_15, e_X8_reach_16, e_X8_reach_17, e_X8_reach_18, e_X8_reach_19, e_X8_reach_20, e_X8_reach_21, e_X8_reach_22, e_X8_reach_23, e_X8_reach_24, e_X8_reach_25, e_X8_reach_26, e_X8_reach_27, e_X8_reach_28, q_isSlotM, hs, xbk_i, xbk_v, bI_0, Bool.true_eq_false, if_false, q_in, decide_eq_true gw, not_false_eq_true, if_true, M.f0, Option.bind_some, nI_add, q1, nI_ge0, if_t, e1]
        have hp : ∀ t, t < 16 → opA S.l S.s n t = (emA S.s t && (decide (flA S.l S.s x ≤ t) && decide (t < ceA S.l S.s x))) := by
          intro t _
          unfold opA
          rw [hx]
        have key : ∀ k t, t + k = 16 → xe XP (d + 14) 168 (29, [.ref m, .int (nI n), .int w, .int (oI (fup (opA S.l S.s n) 0 t)), .int (oI (fdn (opA S.l S.s n) t)), .int (nI (ct (opA S.l S.s n) t)), .int (nI t)], [], h1) = xe XP (d + 14) 168 (48, [.ref m, .int (nI n), .int w, .int (oI (fup (opA S.l S.s n) 0 16)), .int (oI (fdn (opA S.l S.s n) 16)), .int (nI (ct (opA S.l S.s n) 16)), .int (nI 16)], [], h1) := by
          intro k
          induction k with
          | zero =>
            intro t ht
            have ht : t = 16 := by omega
            subst ht
            simp (disch := first | assumption | omega) only [e_X8_reach_29, e_X8_reach_30, e_X8_reach_31, nI_leI, if_t, Nat.le_refl, if_true]
          | succ k ih =>
            intro t ht
            have qm := q_mayMove (d := d + 11) B hd (f := n) (t := t) hn (by omega)
            have hct := ct_le (opA S.l S.s n) t
            rw [← ih (t + 1) (by omega), e_X8_reach_29, fup_last]
            have e2 : fdn (opA S.l S.s n) (t + 1) = if opA S.l S.s n t = true then some t else fdn (opA S.l S.s n) t := rfl
            have e3 : ct (opA S.l S.s n) (t + 1) = ct (opA S.l S.s n) t + (if opA S.l S.s n t = true then 1 else 0) := rfl
            rw [e2, e3]
            cases ho : opA S.l S.s n t with
            | false =>
              rw [ho] at qm
              simp (disch := first | assumption | omega) only [e_X8_reach_30, e_X8_reach_31, e_X8_reach_32, e_X8_reach_33, e_X8_reach_34, e_X8_reach_35, e_X8_reach_36, e_X8_reach_46, e_X8_reach_47, nI_leI, if_f, qm, xbk_i, bI_f, if_true, nI_add, Bool.false_eq_true, if_false, Nat.add_zero]
              cases fup (opA S.l S.s n) 0 t <;> rfl
            | true =>
              rw [ho] at qm
              have hz := fup_ct (p := opA S.l S.s n) t
              cases hq : fup (opA S.l S.s n) 0 t with
              | none =>
                have hz := hz.mpr hq
                simp (disch := first | assumption | omega) only [e_X8_reach_30, e_X8_reach_31, e_X8_reach_32, e_X8_reach_33, e_X8_reach_34, e_X8_reach_35, e_X8_reach_36, e_X8_reach_37, e_X8_reach_38, e_X8_reach_39, e_X8_reach_40, e_X8_reach_41, e_X8_reach_42, e_X8_reach_43, e_X8_reach_44, e_X8_reach_45, e_X8_reach_46, e_X8_reach_47, nI_leI, if_f, qm, xbk_i, bI_0, Bool.true_eq_false, if_false, hz, not_true, if_true, nI_add]
                rfl
              | some y =>
                have hz : ¬ nI (ct (opA S.l S.s n) t) = nI 0 := by rw [nI_eq (by omega) (by omega)]; intro e; rw [hz.mp e] at hq; cases hq
                simp (disch := first | assumption | omega) only [e_X8_reach_30, e_X8_reach_31, e_X8_reach_32, e_X8_reach_33, e_X8_reach_34, e_X8_reach_35, e_X8_reach_36, e_X8_reach_37, e_X8_reach_38, e_X8_reach_39, e_X8_reach_40, e_X8_reach_41, e_X8_reach_42, e_X8_reach_43, e_X8_reach_44, e_X8_reach_45, e_X8_reach_46, e_X8_reach_47, nI_leI, if_f, qm, xbk_i, bI_0, Bool.true_eq_false, if_false, hz, not_false_eq_true, if_true, nI_add]
                rfl
        have k0 := key 16 0 (by omega)
        have k0 : xe XP (d + 14) 168 (29, [.ref m, .int (nI n), .int w, .int (-4), .int (-4), .int (nI 0), .int (nI 0)], [], h1) = _ := k0
        rw [k0]
        rw [fup_congr (fun t _ ht => hp t (by omega)), fup_cut (ceA_le _ _ _), fdn_congr (fun t ht => hp t ht), fdn_cut (ceA_le _ _ _), ct_congr (fun t ht => hp t ht), ct_cut 16 (ceA_le _ _ _)]
        by_cases w0 : w = nI 0
        · subst w0
          simp only [e_X8_reach_48, e_X8_reach_49, e_X8_reach_50, e_X8_reach_51, e_X8_reach_58, not_true, if_false, if_true]
          rfl
        · by_cases w1 : w = nI 1
          · subst w1
            simp only [e_X8_reach_48, e_X8_reach_49, e_X8_reach_52, e_X8_reach_53, e_X8_reach_54, e_X8_reach_55, e_X8_reach_56, e_X8_reach_58, not_true, if_false, if_true, show ¬ nI 1 = nI 0 by decide, not_false_eq_true]
          · simp only [e_X8_reach_48, e_X8_reach_49, e_X8_reach_52, e_X8_reach_53, e_X8_reach_54, e_X8_reach_57, e_X8_reach_58, w0, w1, not_false_eq_true, if_true, if_false]
    · rw [if_neg (fun hh => gw hh.2)]
      refine ⟨h, ?_, K0, Same.refl _ _ _⟩
      simp (disch := first | assumption | omega) only [e_X8_reach_0, e_X8_reach_1, e_X8_reach_2, e_X8_reach_3, e_X8_reach_4, e_X8_reach_5, e_X8_reach_6, e_X8_reach_7, e_X8_reach_8, e_X8_reach_9, q_isSlotM, hs, xbk_i, bI_0, Bool.true_eq_false, if_false, q_in, decide_eq_false gw, not_true]
end Md18R
