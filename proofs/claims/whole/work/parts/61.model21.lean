/-! THE MODEL: what is asked, the rest -/
section Md15R
variable {h : XH} {m : Nat} {S : CS} {d : Nat}
theorem q_meetM (K : Md h m S) (a b : Int32) : ∃ h', xc XP (d + 14) 169 [.ref m, .int a, .int b] h = some (some (.int (aMeet S a b)), h') ∧ Md h' m S ∧ Same h h' m (m + 13) := by
  have K0 := K
  obtain ⟨b0, ⟨ra, nu, nr, nm, M⟩, ⟨f, A, L, R⟩, -⟩ := K
  have c0 := M.k
  have l1 := L.1
  unfold aMeet
  rw [n_X8_meet]
  cases ha : isSl a with
  | false =>
    refine ⟨h, ?_, K0, Same.refl _ _ _⟩
    simp (disch := first | assumption | omega) only [e_X8_meet_0, e_X8_meet_1, e_X8_meet_2, e_X8_meet_3, e_X8_meet_4, e_X8_meet_5, e_X8_meet_6, e_X8_meet_7, e_X8_meet_8, e_X8_meet_9, e_X8_meet_10, q_isSlotM, ha, xbk_i, bI_f, if_true, Bool.false_eq_true, false_and, if_false]
  | true =>
    cases hb : isSl b with
    | false =>
      refine ⟨h, ?_, K0, Same.refl _ _ _⟩
      simp (disch := first | assumption | omega) only [e_X8_meet_0, e_X8_meet_1, e_X8_meet_2, e_X8_meet_3, e_X8_meet_4, e_X8_meet_5, e_X8_meet_6, e_X8_meet_7, e_X8_meet_8, e_X8_meet_9, e_X8_meet_10, q_isSlotM, ha, hb, xbk_i, bI_0, if_true, Bool.false_eq_true, Bool.true_eq_false, false_and, and_false, if_false]
    | true =>
      by_cases hab : a = b
      · rw [if_neg (fun hh => hh.2.2 hab)]
        refine ⟨h, ?_, K0, Same.refl _ _ _⟩
        simp (disch := first | assumption | omega) only [e_X8_meet_0, e_X8_meet_1, e_X8_meet_2, e_X8_meet_3, e_X8_meet_4, e_X8_meet_5, e_X8_meet_6, e_X8_meet_7, e_X8_meet_8, e_X8_meet_9, e_X8_meet_10, q_isSlotM, ha, hb, xbk_i, bI_0, Bool.true_eq_false, if_false, hab, not_true]
      · rw [if_pos ⟨rfl, rfl, hab⟩]
        obtain ⟨n, hn, rfl⟩ := isSl_of ha
        obtain ⟨k, hk, rfl⟩ := isSl_of hb
        rw [xN_nI (by omega), xN_nI (by omega)]
        cases hx : S.s n with
        | none =>
          have q1 := rs_none A R hn hx
          refine ⟨h, ?_, K0, Same.refl _ _ _⟩
          simp (disch := first | assumption | omega) only [e_X8_meet_0, e_X8_meet_1, e_X8_meet_2, e_X8_meet_3, e_X8_meet_4, e_X8_meet_5, e_X8_meet_6, e_X8_meet_7, e_X8_meet_8, e_X8_meet_9, e_X8_meet_10, e_X8_meet_11, e_X8_meet_12, e_X8_meet_13, e_X8_meet_14, e_X8_meet_15, e_X8_meet_16, e_X8_meet_17, e_X8_meet_18, e_X8_meet_19, e_X8_meet_20, e_X8_meet_21, e_X8_meet_22, e_X8_meet_23, e_X8_meet_24, e_X8_meet_25, e_X8_meet_26, q_isSlotM, ha, hb, xbk_i, bI_0, Bool.true_eq_false, if_false, hab, not_false_eq_true, if_true, M.f0, Option.bind_some, nI_add, q1, m4_lt0]
        | some x =>
          obtain ⟨x1, x2, q1, q2⟩ := rs_some A R hn hx
          cases hy : S.s k with
          | none =>
            have p1 := rs_none A R hk hy
            refine ⟨h, ?_, K0, Same.refl _ _ _⟩
            simp (disch := first | assumption | omega) only [e_X8_meet_0, e_X8_meet_1, e_X8_meet_2, e_X8_meet_3, e_X8_meet_4, e_X8_meet_5, e_X8_meet_6, e_X8_meet_7, e_X8_meet_8, e_X8_meet_9, e_X8_meet_10, e_X8_meet_11, e_X8_meet_12, e_X8_meet_13, e_X8_meet_14, e_X8_meet_15, e_X8_meet_16, e_X8_meet_17, e_X8_meet_18, e_X8_meet_19, e_X8_meet_20, e_X8_meet_21, e_X8_meet_22, e_X8_meet_23, e_X8_meet_24, e_X8_meet_25, e_X8_meet_26, q_isSlotM, ha, hb, xbk_i, bI_0, Bool.true_eq_false, if_false, hab, not_false_eq_true, if_true, M.f0, Option.bind_some, nI_add, q1, p1, nI_lt0, if_f, m4_ge0]
          | some y =>
            obtain ⟨y1, y2, p1, p2⟩ := rs_some A R hk hy
            obtain ⟨h1, e1, ⟨K1, ra', nu', nr', nm', f', g', M1, A1, L1, R1, G1, Mk1⟩, s1⟩ := q_lays (d := d + 9) K0
            have q3 := mg_ld G1 Mk1 hn
            rw [hx] at q3
            have q3 : xld h1 (m + 4) 0 (nI n) = some (nI (mk S.l x)) := q3
            have p3 := mg_ld G1 Mk1 hk
            rw [hy] at p3
            have p3 : xld h1 (m + 4) 0 (nI k) = some (nI (mk S.l y)) := p3
            refine ⟨h1, ?_, K1, s1⟩
            simp (disch := first | assumption | omega) only [e_X8_meet_0, e_X8_meet_1, e_X8_meet_2, e_X8_meet_3, e_X8_meet_4, e_X8_meet_5, e_X8_meet_6, e_X8_meet_7, e_X8_meet_8, e_X8_meet_9, e_X8_meet_10, e_X8_meet_11, e_X8_meet_12, e_X8_meet_13, e_X8_meet_14, e_X8_meet_15, e_X8_meet_16, e_X8_meet_17, e_X8_meet_18, e_X8_meet_19, e_X8_meet_20, e_X8_meet_21, e_X8_meet_22, e_X8_meet_23, e_X8_meet_24, e_X8_meet_25, e_X8_meet_26, e_X8_meet_27, e_X8_meet_28, e_X8_meet_29, e_X8_meet_30, e_X8_meet_31, e_X8_meet_32, e_X8_meet_33, e_X8_meet_34, e_X8_meet_35, e_X8_meet_36, e_X8_meet_37, e_X8_meet_38, e_X8_meet_39, q_isSlotM, ha, hb, xbk_i, xbk_v, bI_0, Bool.true_eq_false, if_false, hab, not_false_eq_true, if_true, M.f0, M1.f5, Option.bind_some, nI_add, q1, p1, nI_lt0, nI_ge0, if_f, if_t, e1, q3, p3, q_doMeet, q_bit]
end Md15R
