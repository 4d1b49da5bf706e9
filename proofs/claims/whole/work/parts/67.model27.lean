/-! THE MODEL: keys -/
def ruN (l : List Rl) (k a : Nat) : Nat := match lsB l none k with
  | none => a
  | some j => a ||| 2 ^ j
def kyN (S : CS) (z k n : Nat) : Nat := if z = 0 then n + (if (tS S.l S.s k).isNone = true then 1 else 0) else if z = 2 then n + pop4 (bkA S.l S.s k) else if z = 3 then (if n < pop4 (bkA S.l S.s k) then pop4 (bkA S.l S.s k) else n) else n
theorem kyN_le (S : CS) (z : Nat) : ∀ k, itr (kyN S z) 0 k ≤ 4 * k := by
  intro k
  induction k with
  | zero => exact Nat.le_refl _
  | succ k ih =>
    show kyN S z k (itr (kyN S z) 0 k) ≤ _
    have := pop4_le (bkA S.l S.s k)
    generalize itr (kyN S z) 0 k = a at ih ⊢
    unfold kyN
    repeat' split
    all_goals omega
theorem or_lt {a b n : Nat} (ha : a < 2 ^ n) (hb : b < 2 ^ n) : a ||| b < 2 ^ n := Nat.or_lt_two_pow ha hb
theorem ruN_lt {l : List Rl} (h16 : l.length ≤ 16) : ∀ k, itr (ruN l) 0 k < 2 ^ 16 := by
  intro k
  induction k with
  | zero => show 0 < 2 ^ 16; decide
  | succ k ih =>
    show ruN l k (itr (ruN l) 0 k) < _
    generalize itr (ruN l) 0 k = a at ih ⊢
    unfold ruN
    split
    · exact ih
    · next j hj =>
      have := lsB_len hj
      exact or_lt ih (Nat.pow_lt_pow_right (by decide) (by omega))
theorem ruN_bit {l : List Rl} (j : Nat) : ∀ n, (itr (ruN l) 0 n).testBit j = (fup (fun k => decide (lsB l none k = some j)) 0 n).isSome := by
  intro n
  induction n with
  | zero => simp [itr, fup]
  | succ n ih =>
    show (ruN l n (itr (ruN l) 0 n)).testBit j = _
    rw [fup_last]
    generalize itr (ruN l) 0 n = a at ih ⊢
    unfold ruN
    cases hq : lsB l none n with
    | none =>
      simp only []
      rw [ih]
      cases fup (fun k => decide (lsB l none k = some j)) 0 n <;> simp
    | some i =>
      simp only []
      rw [Nat.testBit_or, ih, Nat.testBit_two_pow]
      cases fup (fun k => decide (lsB l none k = some j)) 0 n with
      | some y => simp
      | none =>
        by_cases g : i = j
        · subst g; simp
        · simp [g]
theorem ct_not {p : Nat → Bool} : ∀ n, ct (fun j => !p j) n + ct p n = n := by
  intro n
  induction n with
  | zero => rfl
  | succ n ih =>
    show (ct (fun j => !p j) n + (if (!p n) = true then 1 else 0)) + (ct p n + (if p n = true then 1 else 0)) = n + 1
    cases p n <;> simp <;> omega
theorem ct_upto {p : Nat → Bool} {a : Nat} : ∀ n, a ≤ n → (∀ j, a ≤ j → j < n → p j = false) → ct p n = ct p a := by
  intro n
  induction n with
  | zero => intro h _; rw [show a = 0 by omega]
  | succ n ih =>
    intro h hp
    by_cases g : a = n + 1
    · rw [g]
    · show ct p n + (if p n = true then 1 else 0) = _
      rw [ih (by omega) (fun j h1 h2 => hp j h1 (by omega)), hp n (by omega) (by omega)]
      simp
theorem ones_cov {l : List Rl} (h16 : l.length ≤ 16) : onesN (itr (ruN l) 0 128) = l.length - ct (covB l) l.length := by
  have hb : ∀ j, decide (itr (ruN l) 0 128 / 2 ^ j % 2 = 1) = (fup (fun k => decide (lsB l none k = some j)) 0 128).isSome := by
    intro j
    rw [← ruN_bit, Nat.testBit_eq_decide_div_mod_eq]
  have hc : ∀ j, covB l j = !(fup (fun k => decide (lsB l none k = some j)) 0 128).isSome := by
    intro j
    unfold covB
    rw [fup_congr (q := fun k => decide (lsB l none k = some j)) (fun k _ hk => by
      unfold kyB
      by_cases g : lsB l none k = some j
      · have := lsB_has _ _ g
        simp [g, this]
      · simp [g])]
    cases fup (fun k => decide (lsB l none k = some j)) 0 128 <;> rfl
  have h2 := ct_not (p := covB l) l.length
  unfold onesN
  rw [ct_congr (q := fun j => !covB l j) (fun j _ => by rw [hb, hc, Bool.not_not])]
  rw [ct_upto 16 h16 (fun j h1 h2 => by
    rw [hc, Bool.not_not, fup_none.mpr (fun k _ _ => decide_eq_false (fun e => by have := lsB_len e; omega))]
    rfl)]
  omega
theorem itr_ct {p : Nat → Bool} : ∀ n, itr (fun k a => a + (if p k = true then 1 else 0)) 0 n = ct p n
  | 0 => rfl
  | n + 1 => by
    show itr _ 0 n + _ = ct p n + _
    rw [itr_ct n]
section Md21R
variable {h : XH} {m : Nat} {S : CS} {d : Nat}
theorem keys_loop (KM : MdM h m S) (hT : ∀ k, k < 128 → rAt S.s (tS S.l S.s k) = lsB S.l none k) {z : Nat} (hz : z ≤ 4) : ∀ (n k : Nat) (w5 w6 : Value), k + n = 128 →
    xe XP (d + 14) 175 (15, [.ref m, .int (nI z), .int (nI (itr (kyN S z) 0 k)), .int (nI (itr (ruN S.l) 0 k)), .int (nI k), w5, w6], [], h) = some (some (.int (if z = 4 then nI (onesN (itr (ruN S.l) 0 128)) else nI (itr (kyN S z) 0 128))), h) := by
  obtain ⟨-, ra, nu, nr, nm, f, g, M, A, L, R, G, Mk⟩ := KM
  have c0 := M.k
  have l1 := L.1
  intro n
  induction n with
  | zero =>
    intro k w5 w6 hk
    have hk : k = 128 := by omega
    subst hk
    have hr := ruN_lt l1 128
    by_cases g : z = 4
    · subst g
      simp (disch := first | assumption | omega) only [e_X8_keys_15, e_X8_keys_16, e_X8_keys_17, e_X8_keys_81, e_X8_keys_82, e_X8_keys_83, e_X8_keys_84, e_X8_keys_85, e_X8_keys_86, e_X8_keys_88, nI_leI, if_t, not_true, if_false, q_ones, xbk_i, if_true]
    · have hne : ¬ nI z = nI 4 := by rw [nI_eq (by omega) (by omega)]; exact g
      simp (disch := first | assumption | omega) only [e_X8_keys_15, e_X8_keys_16, e_X8_keys_17, e_X8_keys_81, e_X8_keys_82, e_X8_keys_83, e_X8_keys_87, e_X8_keys_88, nI_leI, if_t, hne, g, not_false_eq_true, if_true, if_false]
  | succ n ih =>
    intro k w5 w6 hk
    have hk128 : k < 128 := by omega
    have hr := ruN_lt l1 k
    have ha := kyN_le S z k
    have hb := bkA_lt S.l S.s k
    have hp := pop4_le (bkA S.l S.s k)
    have q1 := q_listRule (d := d + 11) M A L (k := k) (but := none) (fun j hj => by cases hj) hk128
    rw [oI_none] at q1
    have q2 := q_ones (d := d + 13) (n := bkA S.l S.s k) (h := h) (by omega)
    rw [ones_4 _ hb] at q2
    have q3 := q_answerBy (d := d + 13) M A L (o := lsB S.l none k) (fun j hj => lsB_len hj)
    have q4 := q_tableAnswer (d := d + 11) M A L R G Mk (k := k)
    rw [hT k hk128] at q4
    have pre : xe XP (d + 14) 175 (15, [.ref m, .int (nI z), .int (nI (itr (kyN S z) 0 k)), .int (nI (itr (ruN S.l) 0 k)), .int (nI k), w5, w6], [], h) = xe XP (d + 14) 175 (xsw [40, 52, 66, 71] 0 79 (nI z), [.ref m, .int (nI z), .int (nI (itr (kyN S z) 0 k)), .int (nI (itr (ruN S.l) 0 (k + 1))), .int (nI k), .int (nI (pop4 (bkA S.l S.s k))), .int (oI (lsB S.l none k))], [], h) := by
      show _ = xe XP (d + 14) 175 (xsw [40, 52, 66, 71] 0 79 (nI z), [.ref m, .int (nI z), .int (nI (itr (kyN S z) 0 k)), .int (nI (ruN S.l k (itr (ruN S.l) 0 k))), .int (nI k), .int (nI (pop4 (bkA S.l S.s k))), .int (oI (lsB S.l none k))], [], h)
      unfold ruN
      cases hl : lsB S.l none k with
      | none =>
        rw [hl] at q1
        simp (disch := first | assumption | omega) only [e_X8_keys_15, e_X8_keys_16, e_X8_keys_17, e_X8_keys_18, e_X8_keys_19, e_X8_keys_20, e_X8_keys_21, e_X8_keys_22, e_X8_keys_23, e_X8_keys_24, e_X8_keys_25, e_X8_keys_26, e_X8_keys_27, e_X8_keys_28, e_X8_keys_29, e_X8_keys_30, e_X8_keys_31, e_X8_keys_32, e_X8_keys_33, e_X8_keys_34, e_X8_keys_35, e_X8_keys_36, e_X8_keys_37, e_X8_keys_38, e_X8_keys_39, nI_leI, if_f, q_blocksOnM M A L R G Mk, q2, q1, xbk_i, oI_none, m4_ge0, if_false, nx_or, Nat.or_zero]
      | some j =>
        have hj := lsB_len hl
        have sj := shl1 (k := j) (by omega)
        rw [hl] at q1
        simp (disch := first | assumption | omega) only [e_X8_keys_15, e_X8_keys_16, e_X8_keys_17, e_X8_keys_18, e_X8_keys_19, e_X8_keys_20, e_X8_keys_21, e_X8_keys_22, e_X8_keys_23, e_X8_keys_24, e_X8_keys_25, e_X8_keys_26, e_X8_keys_27, e_X8_keys_28, e_X8_keys_29, e_X8_keys_30, e_X8_keys_31, e_X8_keys_32, e_X8_keys_33, e_X8_keys_34, e_X8_keys_35, e_X8_keys_36, e_X8_keys_37, e_X8_keys_38, e_X8_keys_39, nI_leI, if_f, q_blocksOnM M A L R G Mk, q2, q1, xbk_i, oI_some, nI_ge0, if_t, sj, nx_or]
    rw [pre]
    have e0 : itr (kyN S z) 0 (k + 1) = kyN S z k (itr (kyN S z) 0 k) := rfl
    have fin : ∀ a w5 w6, a = kyN S z k (itr (kyN S z) 0 k) → xe XP (d + 14) 175 (79, [.ref m, .int (nI z), .int (nI a), .int (nI (itr (ruN S.l) 0 (k + 1))), .int (nI k), w5, w6], [], h) = some (some (.int (if z = 4 then nI (onesN (itr (ruN S.l) 0 128)) else nI (itr (kyN S z) 0 128))), h) := by
      intro a w5 w6 e
      subst e
      rw [← e0, ← ih (k + 1) w5 w6 (by omega)]
      simp (disch := first | assumption | omega) only [e_X8_keys_79, e_X8_keys_80, nI_add]
    rcases (show z = 0 ∨ z = 1 ∨ z = 2 ∨ z = 3 ∨ z = 4 by omega) with e | e | e | e | e
    · subst e
      rw [show xsw [40, 52, 66, 71] 0 79 (nI 0) = 40 by decide]
      have hf := fin (itr (kyN S 0) 0 k + (if (tS S.l S.s k).isNone = true then 1 else 0)) (.int (nI (pop4 (bkA S.l S.s k)))) (.int (oI (lsB S.l none k))) rfl
      cases ht : tS S.l S.s k with
      | none =>
        have hn := hT k hk128
        rw [ht] at hn hf
        have hn : lsB S.l none k = none := hn.symm
        rw [hn] at q4 hf
        have q4 : _ = some (some (Value.int (-4)), h) := q4
        rw [hn]
        simp only [Option.isNone_none, if_true] at hf
        simp (disch := first | assumption | omega) only [e_X8_keys_40, e_X8_keys_41, e_X8_keys_42, e_X8_keys_43, e_X8_keys_44, e_X8_keys_45, e_X8_keys_46, e_X8_keys_47, e_X8_keys_48, e_X8_keys_49, e_X8_keys_50, e_X8_keys_51, q4, xbk_i, not_true, if_false, nI_add, hf]
      | some i =>
        have hi := fup_some.mp ht
        have hn := hT k hk128
        rw [ht] at hn hf
        have hfit := hi.2.2.1
        unfold fitS at hfit
        cases hx : S.s i with
        | none => rw [hx] at hfit; cases hfit
        | some x =>
          obtain ⟨x1, x2, p1, p2⟩ := rs_some A R (show i < 16 by omega) hx
          have hn : some x.1 = lsB S.l none k := by rw [← hn]; unfold rAt; simp [hx]
          have hv := (L.2.1 _ (rlN_mem x1)).2.2.2.2
          rw [← hn] at q4 hf
          have q4 : _ = some (some (Value.int (nI (rlN S.l x.1).2.2.2.2)), h) := q4
          have hne := nI_n4 (n := (rlN S.l x.1).2.2.2.2) (by omega)
          rw [← hn]
          simp only [Option.isNone_some, Bool.false_eq_true, if_false] at hf
          simp (disch := first | assumption | omega) only [e_X8_keys_40, e_X8_keys_41, e_X8_keys_42, e_X8_keys_43, e_X8_keys_44, e_X8_keys_45, e_X8_keys_46, e_X8_keys_47, e_X8_keys_48, e_X8_keys_49, e_X8_keys_50, e_X8_keys_51, q4, xbk_i, hne, not_false_eq_true, if_true, nI_add, hf]
    · subst e
      rw [show xsw [40, 52, 66, 71] 0 79 (nI 1) = 52 by decide]
      have hf := fin (itr (kyN S 1) 0 k) (.int (nI (pop4 (bkA S.l S.s k)))) (.int (oI (lsB S.l none k))) rfl
      simp (disch := first | assumption | omega) only [e_X8_keys_52, e_X8_keys_53, e_X8_keys_54, e_X8_keys_55, e_X8_keys_56, e_X8_keys_57, e_X8_keys_58, e_X8_keys_59, e_X8_keys_60, e_X8_keys_61, e_X8_keys_62, e_X8_keys_63, e_X8_keys_64, e_X8_keys_65, q4, q3, xbk_i, if_true, nI_add, Nat.add_zero, hf]
    · subst e
      rw [show xsw [40, 52, 66, 71] 0 79 (nI 2) = 66 by decide]
      have hf := fin (itr (kyN S 2) 0 k + pop4 (bkA S.l S.s k)) (.int (nI (pop4 (bkA S.l S.s k)))) (.int (oI (lsB S.l none k))) rfl
      simp (disch := first | assumption | omega) only [e_X8_keys_66, e_X8_keys_67, e_X8_keys_68, e_X8_keys_69, e_X8_keys_70, nI_add, hf]
    · subst e
      rw [show xsw [40, 52, 66, 71] 0 79 (nI 3) = 71 by decide]
      have hf := fin (if itr (kyN S 3) 0 k < pop4 (bkA S.l S.s k) then pop4 (bkA S.l S.s k) else itr (kyN S 3) 0 k) (.int (nI (pop4 (bkA S.l S.s k)))) (.int (oI (lsB S.l none k))) rfl
      by_cases g : itr (kyN S 3) 0 k < pop4 (bkA S.l S.s k)
      · rw [if_pos g] at hf
        simp (disch := first | assumption | omega) only [e_X8_keys_71, e_X8_keys_72, e_X8_keys_73, e_X8_keys_74, e_X8_keys_75, e_X8_keys_77, e_X8_keys_78, nI_leI, if_f, hf]
      · rw [if_neg g] at hf
        simp (disch := first | assumption | omega) only [e_X8_keys_71, e_X8_keys_72, e_X8_keys_73, e_X8_keys_76, e_X8_keys_77, e_X8_keys_78, nI_leI, if_t, hf]
    · subst e
      rw [show xsw [40, 52, 66, 71] 0 79 (nI 4) = 79 by decide]
      exact fin (itr (kyN S 4) 0 k) (.int (nI (pop4 (bkA S.l S.s k)))) (.int (oI (lsB S.l none k))) rfl
theorem q_keysM (K : Md h m S) (hT : ∀ k, k < 128 → rAt S.s (tS S.l S.s k) = lsB S.l none k) (w : Int32) : ∃ h', xc XP (d + 14) 175 [.ref m, .int w] h = some (some (.int (aKeys S w)), h') ∧ Md h' m S ∧ Same h h' m (m + 13) := by
  have K0 := K
  obtain ⟨b0, ⟨ra, nu, nr, nm, M⟩, ⟨f, A, L, R⟩, -⟩ := K
  have c0 := M.k
  have l1 := L.1
  unfold aKeys
  rw [n_X8_keys]
  by_cases gw : nI 0 ≤ w ∧ w ≤ nI 4
  · obtain ⟨z, hz, rfl⟩ := nn_of gw.1
    have hz6 : z ≤ 4 := (nI_leI hz (by decide)).mp gw.2
    have hIn : ∀ e, xc XP e 111 [.int (nI z), .int (nI 0), .int (nI 4)] h = some (some (.int (bI true)), h) := fun e => by rw [q_in, decide_eq_true gw]
    obtain ⟨h1, e1, KM, s1⟩ := q_lays (d := d + 9) K0
    have key := keys_loop (d := d) KM hT hz6 128 0 .null .null (by omega)
    have key : xe XP (d + 14) 175 (15, [.ref m, .int (nI z), .int (nI 0), .int (nI 0), .int (nI 0), .null, .null], [], h1) = _ := key
    refine ⟨h1, ?_, KM.1, s1⟩
    simp (disch := first | assumption | omega) only [e_X8_keys_0, e_X8_keys_1, e_X8_keys_2, e_X8_keys_3, e_X8_keys_4, e_X8_keys_5, e_X8_keys_6, e_X8_keys_7, e_X8_keys_8, e_X8_keys_9, e_X8_keys_10, e_X8_keys_11, e_X8_keys_12, e_X8_keys_13, e_X8_keys_14, hIn, xbk_i, xbk_v, bI_0, Bool.true_eq_false, not_false_eq_true, if_true, e1, key, nI_eq]
    rcases (show z = 0 ∨ z = 1 ∨ z = 2 ∨ z = 3 ∨ z = 4 by omega) with e | e | e | e | e
    · subst e
      rw [if_neg (by decide), if_pos rfl, ← itr_ct]
      rfl
    · subst e
      rw [if_neg (by decide), if_neg (by decide), if_pos rfl, ← itr_ct]
      refine congrArg (fun y => some (some (Value.int (nI y)), h1)) (itr_congr (fun j x hj => ?_))
      rw [hT j hj]
      simp [kyN]
    · subst e
      rfl
    · subst e
      rfl
    · subst e
      rw [if_pos rfl, ones_cov l1]
      rfl
  · refine ⟨h, ?_, K0, Same.refl _ _ _⟩
    have hw : ∀ z, z ≤ 4 → ¬ w = nI z := by
      intro z hz e
      subst e
      exact gw ⟨by rw [nI_leI (by decide) (by omega)]; omega, by rw [nI_leI (by omega) (by decide)]; omega⟩
    rw [if_neg (hw 0 (by omega)), if_neg (hw 1 (by omega)), if_neg (hw 2 (by omega)), if_neg (hw 3 (by omega)), if_neg (hw 4 (by omega))]
    simp (disch := first | assumption | omega) only [e_X8_keys_0, e_X8_keys_1, e_X8_keys_2, e_X8_keys_3, e_X8_keys_4, e_X8_keys_5, e_X8_keys_6, q_in, xbk_i, decide_eq_false gw, bI_f, not_true, if_false]
end Md21R
