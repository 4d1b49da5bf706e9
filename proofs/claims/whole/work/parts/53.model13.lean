/-! THE MODEL: what is asked of its list -/
def isRn (l : List Rl) (x : Int32) : Bool := decide (nI 0 ≤ x ∧ x < nI l.length)
section Md9R
variable {h : XH} {m : Nat} {cm ca lm ra nu nr mm nm : Int32} {f : Nat → Int32} {l : List Rl} {d : Nat}
theorem q_bit {b : Bool} : xc XP d 162 [.int (bI b)] h = some (some (.int (bI b)), h) := by
  rw [n_X8_bit]
  simp only [e_X8_bit_0, e_X8_bit_1, e_X8_bit_2, e_X8_bit_3, e_X8_bit_4, e_X8_bit_5, bI_0]
  cases b <;> rfl
theorem q_isRuleNumber (M : MdO h m cm ca lm ra nu nr mm nm) (A : h[m + 1]? = some (ia 113 f)) (L : RwL f l) {x : Int32} : xc XP (d + 1) 154 [.ref m, .int x] h = some (some (.int (bI (isRn l x))), h) := by
  obtain ⟨l1, l2, l3, l4⟩ := L
  rw [n_X8_isRuleNumber]
  simp (disch := first | assumption | omega) only [e_X8_isRuleNumber_0, e_X8_isRuleNumber_1, e_X8_isRuleNumber_2, e_X8_isRuleNumber_3, e_X8_isRuleNumber_4, e_X8_isRuleNumber_5, e_X8_isRuleNumber_6, e_X8_isRuleNumber_7, e_X8_isRuleNumber_8, e_X8_isRuleNumber_9, M.f0, Option.bind_some, ra_ld A, l3, q_in, xbk_i, bI_rk, if_true]
  congr 4
  unfold isRn
  refine congrArg bI (decide_eq_decide.mpr ?_)
  rw [nI_sub1]
  have e : x ≤ nI l.length + (-1) ↔ x < nI l.length := by
    rw [Int32.le_iff_toInt_le, Int32.lt_iff_toInt_lt]
    cases hl : l.length with
    | zero =>
      rw [show nI 0 + (-1) = (-1 : Int32) from rfl, show (-1 : Int32).toInt = -1 by decide, show (nI 0).toInt = 0 by decide]
      omega
    | succ n =>
      rw [pk_m1, nI_toInt (by omega), nI_toInt (by omega)]
      omega
  rw [e]
theorem q_keysHadM (M : MdO h m cm ca lm ra nu nr mm nm) (A : h[m + 1]? = some (ia 113 f)) (L : RwL f l) {r : Nat} (hr : r < l.length) : xc XP (d + 3) 161 [.ref m, .int (nI r), .int (nI 0)] h = some (some (.int (nI (ct (hasR (rlN l r)) 128))), h) := by
  have c0 := M.k
  rw [n_X8_keysOf]
  simp only [e_X8_keysOf_0, e_X8_keysOf_1, e_X8_keysOf_2, e_X8_keysOf_3]
  have key := loop_ct (fun k c => xe XP (d + 3) 161 (4, [.ref m, .int (nI r), .int (nI 0), .int (nI c), .int (nI k)], [], h)) (hasR (rlN l r)) 128 (by
    intro k c hk hc
    rw [e_X8_keysOf_4]
    simp (disch := first | assumption | omega) only [e_X8_keysOf_5, e_X8_keysOf_6, e_X8_keysOf_7, e_X8_keysOf_8, e_X8_keysOf_9, e_X8_keysOf_20, e_X8_keysOf_21, e_X8_keysOf_22, e_X8_keysOf_23, e_X8_keysOf_24, e_X8_keysOf_25, e_X8_keysOf_26, e_X8_keysOf_27, e_X8_keysOf_28, e_X8_keysOf_29, e_X8_keysOf_30, e_X8_keysOf_31, e_X8_keysOf_32, nI_leI, if_f, if_true, M.f0, Option.bind_some, q_hasM A L, xbk_i, bI_0, nI_add]
    cases hasR (rlN l r) k <;> simp) 128 (Nat.le_refl _)
  rw [key]
  have hct := ct_le (hasR (rlN l r)) 128
  simp (disch := first | assumption | omega) only [e_X8_keysOf_4, e_X8_keysOf_5, e_X8_keysOf_6, e_X8_keysOf_33, e_X8_keysOf_34, nI_leI, if_t, Nat.le_refl, if_true]
theorem q_keysAnsM (M : MdO h m cm ca lm ra nu nr mm nm) (A : h[m + 1]? = some (ia 113 f)) (L : RwL f l) {r : Nat} (hr : r < l.length) : xc XP (d + 3) 161 [.ref m, .int (nI r), .int (nI 1)] h = some (some (.int (nI (ct (kyB l r) 128))), h) := by
  have c0 := M.k
  have l1 := L.1
  rw [n_X8_keysOf]
  simp only [e_X8_keysOf_0, e_X8_keysOf_1, e_X8_keysOf_2, e_X8_keysOf_3]
  have key := loop_ct (fun k c => xe XP (d + 3) 161 (4, [.ref m, .int (nI r), .int (nI 1), .int (nI c), .int (nI k)], [], h)) (kyB l r) 128 (by
    intro k c hk hc
    have ql := q_listRule (d := d) M A L (but := none) (k := k) (fun j hj => by cases hj) hk
    rw [oI_none] at ql
    have he : (oI (lsB l none k) = nI r) = (lsB l none k = some r) := oI_eq (fun j hj => by have := lsB_len hj; omega) (by omega)
    have hky : kyB l r k = decide (lsB l none k = some r) := by
      unfold kyB
      by_cases g : lsB l none k = some r
      · rw [lsB_has _ _ g]; rfl
      · rw [decide_eq_false g, Bool.and_false]
    rw [e_X8_keysOf_4, hky]
    simp (disch := first | assumption | omega) only [e_X8_keysOf_5, e_X8_keysOf_6, e_X8_keysOf_7, e_X8_keysOf_8, e_X8_keysOf_9, e_X8_keysOf_10, e_X8_keysOf_11, e_X8_keysOf_12, e_X8_keysOf_13, e_X8_keysOf_14, e_X8_keysOf_15, e_X8_keysOf_16, e_X8_keysOf_17, e_X8_keysOf_18, e_X8_keysOf_19, e_X8_keysOf_29, e_X8_keysOf_30, e_X8_keysOf_31, e_X8_keysOf_32, nI_leI, if_f, show ¬ nI 1 = nI 0 by decide, if_false, ql, xbk_i, he, nI_add]
    by_cases g : lsB l none k = some r <;> simp [g]) 128 (Nat.le_refl _)
  rw [key]
  have hct := ct_le (kyB l r) 128
  simp (disch := first | assumption | omega) only [e_X8_keysOf_4, e_X8_keysOf_5, e_X8_keysOf_6, e_X8_keysOf_33, e_X8_keysOf_34, nI_leI, if_t, Nat.le_refl, if_true]
theorem q_rulesThat (M : MdO h m cm ca lm ra nu nr mm nm) (A : h[m + 1]? = some (ia 113 f)) (L : RwL f l) (b : Bool) : xc XP (d + 4) 178 [.ref m, .int (bI b)] h = some (some (.int (nI (ct (fun r => if b = true then idlB l r else covB l r) l.length))), h) := by
  have c0 := M.k
  have l1 := L.1
  have l3 := L.2.2.1
  rw [n_X8_rulesThat]
  simp only [e_X8_rulesThat_0, e_X8_rulesThat_1, e_X8_rulesThat_2, e_X8_rulesThat_3]
  have key := loop_ct (fun r c => xe XP (d + 4) 178 (4, [.ref m, .int (bI b), .int (nI c), .int (nI r)], [], h)) (fun r => if b = true then idlB l r else covB l r) l.length (by
    intro r c hr hc
    rw [e_X8_rulesThat_4]
    simp (disch := first | assumption | omega) only [e_X8_rulesThat_5, e_X8_rulesThat_6, e_X8_rulesThat_7, e_X8_rulesThat_8, e_X8_rulesThat_9, e_X8_rulesThat_10, e_X8_rulesThat_11, e_X8_rulesThat_12, e_X8_rulesThat_13, e_X8_rulesThat_14, e_X8_rulesThat_15, e_X8_rulesThat_16, e_X8_rulesThat_17, e_X8_rulesThat_18, e_X8_rulesThat_19, e_X8_rulesThat_20, e_X8_rulesThat_21, e_X8_rulesThat_22, e_X8_rulesThat_23, e_X8_rulesThat_24, e_X8_rulesThat_25, e_X8_rulesThat_26, e_X8_rulesThat_27, e_X8_rulesThat_28, M.f0, Option.bind_some, ra_ld A, l3, nI_leI, if_f, bI_0, q_isIdleM M A L, q_isCoveredM M A L, xbk_i, nI_add]
    cases b
    · cases covB l r <;> simp
    · cases idlB l r <;> simp) l.length (Nat.le_refl _)
  rw [key]
  simp (disch := first | assumption | omega) only [e_X8_rulesThat_4, e_X8_rulesThat_5, e_X8_rulesThat_6, e_X8_rulesThat_7, e_X8_rulesThat_8, e_X8_rulesThat_9, e_X8_rulesThat_29, e_X8_rulesThat_30, M.f0, Option.bind_some, ra_ld A, l3, nI_leI, if_t, Nat.le_refl, if_true]
end Md9R
