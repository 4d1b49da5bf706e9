/-! THE CLASS: what is asked -/
def aRule (S : CS) (r w : Int32) : Int32 := if isR S r = true then (if w = nI 0 then nI (rlN S.l (xN r)).1 else if w = nI 1 then nI (rlN S.l (xN r)).2.1 else if w = nI 2 then nI (rlN S.l (xN r)).2.2.1 else if w = nI 3 then nI (rlN S.l (xN r)).2.2.2.1 else if w = nI 4 then nI (rlN S.l (xN r)).2.2.2.2 else if w = nI 5 then nI (rwR (rlN S.l (xN r))) else if w = nI 6 then nI (ct (hasR (rlN S.l (xN r))) 128) else if w = nI 7 then nI (ct (kyB S.l (xN r)) 128) else if w = nI 8 then bI (covB S.l (xN r)) else if w = nI 9 then bI (idlB S.l (xN r)) else -1) else -1
def isKy (k : Int32) : Bool := decide (nI 0 ≤ k ∧ k < nI 128)
def aKey (S : CS) (k w : Int32) : Int32 := if isKy k = true then (if w = nI 0 then ansR S.l (rAt S.s (tS S.l S.s (xN k))) else if w = nI 1 then ansR S.l (lsB S.l none (xN k)) else if w = nI 2 then oI (tS S.l S.s (xN k)) else if w = nI 3 then oI (rAt S.s (tS S.l S.s (xN k))) else if w = nI 4 then nI (ct (fitS S.l S.s (xN k)) 16) else if w = nI 5 then nI (ct (fun j => hasR (rlN S.l j) (xN k)) S.l.length) else if w = nI 6 then nI (bkA S.l S.s (xN k)) else -1) else -1
def aKeys (S : CS) (w : Int32) : Int32 := if w = nI 0 then nI (ct (fun k => (tS S.l S.s k).isNone) 128) else if w = nI 1 then nI (ct (fun k => !decide (rAt S.s (tS S.l S.s k) = lsB S.l none k)) 128) else if w = nI 2 then nI (itr (fun k a => a + pop4 (bkA S.l S.s k)) 0 128) else if w = nI 3 then nI (itr (fun k a => if a < pop4 (bkA S.l S.s k) then pop4 (bkA S.l S.s k) else a) 0 128) else if w = nI 4 then nI (S.l.length - ct (covB S.l) S.l.length) else -1
def aCount (S : CS) (w : Int32) : Int32 := if w = nI 0 then nI S.l.length else if w = nI 1 then nI (rws S.s) else if w = nI 2 then nI (16 - rws S.s) else if w = nI 3 then nI (ct (covB S.l) S.l.length) else if w = nI 4 then nI (ct (idlB S.l) S.l.length) else if w = nI 5 then nI S.sz else if w = nI 6 then nI S.tx.length else if w = nI 7 then nI (itr (fun a n => n + ct (fun b => decide (a + 1 ≤ b) && prA S.l S.s a b) 16) 0 16) else if w = nI 8 then nI (ct (fun s => (S.s s).isSome && !(fup (bloA S.l S.s s) 0 s).isSome) 16) else -1
def aSlot (S : CS) (s w : Int32) : Int32 := if isSl s = true ∧ nI 0 ≤ w ∧ w ≤ nI 3 then (match S.s (xN s) with | none => -4 | some x => if w = nI 0 then nI x.1 else if w = nI 1 then nI x.2 else if w = nI 2 then nI (sgA S.l x) else nI (ct (fun k => decide (tS S.l S.s k = some (xN s))) 128)) else -1
def aReach (S : CS) (s w : Int32) : Int32 := if isSl s = true ∧ nI 0 ≤ w ∧ w ≤ nI 2 then (match S.s (xN s) with | none => -2 | some x => if w = nI 0 then oI (loA S.l S.s x) else if w = nI 1 then oI (fdn (fun t => decide (flA S.l S.s x ≤ t) && emA S.s t) (ceA S.l S.s x)) else nI (ct (fun t => decide (flA S.l S.s x ≤ t) && emA S.s t) (ceA S.l S.s x))) else -1
def aMeet (S : CS) (a b : Int32) : Int32 := if isSl a = true ∧ isSl b = true ∧ ¬ a = b then (match S.s (xN a) with | none => -2 | some x => match S.s (xN b) with | none => -2 | some y => bI (mtX S.l x y)) else -1
section Cls4R
variable {h : XH} {c : Nat} {S : CS} {d : Nat}
theorem q_rule (K : Cr h c S) (r w : Int32) : xc XP (d + 14) 88 [.ref c, .int r, .int w] h = some (some (.int (aRule S r w)), h) := by
  have c0 := K.O.k
  have L := K.B.L
  have c1 := L.c
  have h16 := L.1
  unfold aRule
  rw [n_X7_rule]
  cases hr : isR S r with
  | false =>
    simp (disch := first | assumption | omega) only [e_X7_rule_0, e_X7_rule_1, e_X7_rule_2, e_X7_rule_3, e_X7_rule_4, e_X7_rule_5, q_isRule K, xbk_i, hr, bI_f, not_true, if_false, Bool.false_eq_true]
  | true =>
    obtain ⟨n, hn, rfl⟩ := isR_of h16 hr
    rw [if_pos rfl, xN_nI (by omega)]
    simp (disch := first | assumption | omega) only [e_X7_rule_0, e_X7_rule_1, e_X7_rule_2, e_X7_rule_3, e_X7_rule_4, e_X7_rule_5, e_X7_rule_6, e_X7_rule_7, e_X7_rule_8, e_X7_rule_9, e_X7_rule_10, e_X7_rule_11, q_isRule K, xbk_i, hr, bI_0, Bool.true_eq_false, not_false_eq_true, if_true, K.O.f2, K.B.g0, Option.bind_some]
    by_cases w0 : w = nI 0
    · subst w0
      rw [show xsw [12, 17, 22, 27, 32, 37, 41, 45, 49, 57] 0 65 (nI 0) = 12 by decide]
      simp only [if_true, if_false]
      simp (disch := first | assumption | omega) only [e_X7_rule_12, e_X7_rule_13, e_X7_rule_14, e_X7_rule_15, e_X7_rule_16, L.f1, L.lK, Option.bind_some]
    by_cases w1 : w = nI 1
    · subst w1
      rw [show xsw [12, 17, 22, 27, 32, 37, 41, 45, 49, 57] 0 65 (nI 1) = 17 by decide]
      simp only [if_true, if_false, show ¬ nI 1 = nI 0 by decide]
      simp (disch := first | assumption | omega) only [e_X7_rule_17, e_X7_rule_18, e_X7_rule_19, e_X7_rule_20, e_X7_rule_21, L.f2, L.lH, Option.bind_some]
    by_cases w2 : w = nI 2
    · subst w2
      rw [show xsw [12, 17, 22, 27, 32, 37, 41, 45, 49, 57] 0 65 (nI 2) = 22 by decide]
      simp only [if_true, if_false, show ¬ nI 2 = nI 0 by decide, show ¬ nI 2 = nI 1 by decide]
      simp (disch := first | assumption | omega) only [e_X7_rule_22, e_X7_rule_23, e_X7_rule_24, e_X7_rule_25, e_X7_rule_26, L.f5, L.lF, Option.bind_some]
    by_cases w3 : w = nI 3
    · subst w3
      rw [show xsw [12, 17, 22, 27, 32, 37, 41, 45, 49, 57] 0 65 (nI 3) = 27 by decide]
      simp only [if_true, if_false, show ¬ nI 3 = nI 0 by decide, show ¬ nI 3 = nI 1 by decide, show ¬ nI 3 = nI 2 by decide]
      simp (disch := first | assumption | omega) only [e_X7_rule_27, e_X7_rule_28, e_X7_rule_29, e_X7_rule_30, e_X7_rule_31, L.f6, L.lL, Option.bind_some]
    by_cases w4 : w = nI 4
    · subst w4
      rw [show xsw [12, 17, 22, 27, 32, 37, 41, 45, 49, 57] 0 65 (nI 4) = 32 by decide]
      simp only [if_true, if_false, show ¬ nI 4 = nI 0 by decide, show ¬ nI 4 = nI 1 by decide, show ¬ nI 4 = nI 2 by decide, show ¬ nI 4 = nI 3 by decide]
      simp (disch := first | assumption | omega) only [e_X7_rule_32, e_X7_rule_33, e_X7_rule_34, e_X7_rule_35, e_X7_rule_36, L.f7, L.lA, Option.bind_some]
    by_cases w5 : w = nI 5
    · subst w5
      rw [show xsw [12, 17, 22, 27, 32, 37, 41, 45, 49, 57] 0 65 (nI 5) = 37 by decide]
      simp only [if_true, if_false, show ¬ nI 5 = nI 0 by decide, show ¬ nI 5 = nI 1 by decide, show ¬ nI 5 = nI 2 by decide, show ¬ nI 5 = nI 3 by decide, show ¬ nI 5 = nI 4 by decide]
      simp (disch := first | assumption | omega) only [e_X7_rule_37, e_X7_rule_38, e_X7_rule_39, e_X7_rule_40, q_rowsOf L, xbk_i, Option.bind_some]
    by_cases w6 : w = nI 6
    · subst w6
      rw [show xsw [12, 17, 22, 27, 32, 37, 41, 45, 49, 57] 0 65 (nI 6) = 41 by decide]
      simp only [if_true, if_false, show ¬ nI 6 = nI 0 by decide, show ¬ nI 6 = nI 1 by decide, show ¬ nI 6 = nI 2 by decide, show ¬ nI 6 = nI 3 by decide, show ¬ nI 6 = nI 4 by decide, show ¬ nI 6 = nI 5 by decide]
      simp (disch := first | assumption | omega) only [e_X7_rule_41, e_X7_rule_42, e_X7_rule_43, e_X7_rule_44, q_keysHadBy L, xbk_i, Option.bind_some]
    by_cases w7 : w = nI 7
    · subst w7
      rw [show xsw [12, 17, 22, 27, 32, 37, 41, 45, 49, 57] 0 65 (nI 7) = 45 by decide]
      simp only [if_true, if_false, show ¬ nI 7 = nI 0 by decide, show ¬ nI 7 = nI 1 by decide, show ¬ nI 7 = nI 2 by decide, show ¬ nI 7 = nI 3 by decide, show ¬ nI 7 = nI 4 by decide, show ¬ nI 7 = nI 5 by decide, show ¬ nI 7 = nI 6 by decide]
      simp (disch := first | assumption | omega) only [e_X7_rule_45, e_X7_rule_46, e_X7_rule_47, e_X7_rule_48, q_keysAnsweredByR L, xbk_i, Option.bind_some]
    by_cases w8 : w = nI 8
    · subst w8
      rw [show xsw [12, 17, 22, 27, 32, 37, 41, 45, 49, 57] 0 65 (nI 8) = 49 by decide]
      simp only [if_true, if_false, show ¬ nI 8 = nI 0 by decide, show ¬ nI 8 = nI 1 by decide, show ¬ nI 8 = nI 2 by decide, show ¬ nI 8 = nI 3 by decide, show ¬ nI 8 = nI 4 by decide, show ¬ nI 8 = nI 5 by decide, show ¬ nI 8 = nI 6 by decide, show ¬ nI 8 = nI 7 by decide]
      simp (disch := first | assumption | omega) only [e_X7_rule_49, e_X7_rule_50, e_X7_rule_51, e_X7_rule_52, e_X7_rule_53, e_X7_rule_54, e_X7_rule_55, e_X7_rule_56, q_isCovered L, xbk_i, bI_0, Option.bind_some]
      cases covB S.l n <;> rfl
    by_cases w9 : w = nI 9
    · subst w9
      rw [show xsw [12, 17, 22, 27, 32, 37, 41, 45, 49, 57] 0 65 (nI 9) = 57 by decide]
      simp only [if_true, if_false, show ¬ nI 9 = nI 0 by decide, show ¬ nI 9 = nI 1 by decide, show ¬ nI 9 = nI 2 by decide, show ¬ nI 9 = nI 3 by decide, show ¬ nI 9 = nI 4 by decide, show ¬ nI 9 = nI 5 by decide, show ¬ nI 9 = nI 6 by decide, show ¬ nI 9 = nI 7 by decide, show ¬ nI 9 = nI 8 by decide]
      simp (disch := first | assumption | omega) only [e_X7_rule_57, e_X7_rule_58, e_X7_rule_59, e_X7_rule_60, e_X7_rule_61, e_X7_rule_62, e_X7_rule_63, e_X7_rule_64, q_isIdle L, xbk_i, bI_0, Option.bind_some]
      cases idlB S.l n <;> rfl
    rw [show xsw [12, 17, 22, 27, 32, 37, 41, 45, 49, 57] 0 65 w = 65 by simp only [xsw, w0, w1, w2, w3, w4, w5, w6, w7, w8, w9, if_false]]
    simp only [w0, w1, w2, w3, w4, w5, w6, w7, w8, w9, if_false, e_X7_rule_65, e_X7_rule_66]
theorem q_key (K : Cr h c S) (hd : dst S.l) (k w : Int32) : xc XP (d + 14) 95 [.ref c, .int k, .int w] h = some (some (.int (aKey S k w)), h) := by
  have c0 := K.B.k
  have L := K.B.L
  have c1 := L.c
  have c2 := K.B.t
  unfold aKey isKy
  rw [n_X7_key]
  by_cases g1 : k < nI 0
  · rw [decide_eq_false (fun hh => absurd g1 (Int32.not_lt.mpr hh.1)), if_neg (by decide)]
    simp only [e_X7_key_0, e_X7_key_1, e_X7_key_2, e_X7_key_3, e_X7_key_4, e_X7_key_5, e_X7_key_6, g1, if_true]
  · by_cases g2 : k < nI 128
    · rw [decide_eq_true ⟨Int32.not_lt.mp g1, g2⟩, if_pos rfl]
      obtain ⟨n, hn, rfl⟩ := nn_of (Int32.not_lt.mp g1)
      have hk : n < 128 := (nI_ltI hn (by decide)).mp g2
      rw [xN_nI hn]
      simp only [e_X7_key_0, e_X7_key_1, e_X7_key_2, e_X7_key_3, e_X7_key_4, e_X7_key_7, e_X7_key_8, g1, g2, if_true, if_false]
      by_cases w0 : w = nI 0
      · subst w0
        rw [show xsw [9, 18, 28, 34, 43, 49, 55] 0 61 (nI 0) = 9 by decide]
        simp only [if_true, if_false]
        simp (disch := first | assumption | omega) only [e_X7_key_9, e_X7_key_10, e_X7_key_11, e_X7_key_12, e_X7_key_13, e_X7_key_14, e_X7_key_15, e_X7_key_16, e_X7_key_17, K.O.f2, K.B.g0, K.B.g1, Option.bind_some, q_answeringSlotB K.B, xbk_i, q_answerOfB K.B hd (fun s hs => tS_lt hs)]
      by_cases w1 : w = nI 1
      · subst w1
        rw [show xsw [9, 18, 28, 34, 43, 49, 55] 0 61 (nI 1) = 18 by decide]
        simp only [if_true, if_false, show ¬ nI 1 = nI 0 by decide]
        simp (disch := first | assumption | omega) only [e_X7_key_18, e_X7_key_19, e_X7_key_20, e_X7_key_21, e_X7_key_22, e_X7_key_23, e_X7_key_24, e_X7_key_25, e_X7_key_26, e_X7_key_27, K.O.f2, K.B.g0, K.B.g1, Option.bind_some, q_answeringRule L, xbk_i, q_answerOfR L (fun j hj => lsB_len hj)]
      by_cases w2 : w = nI 2
      · subst w2
        rw [show xsw [9, 18, 28, 34, 43, 49, 55] 0 61 (nI 2) = 28 by decide]
        simp only [if_true, if_false, show ¬ nI 2 = nI 0 by decide, show ¬ nI 2 = nI 1 by decide]
        simp (disch := first | assumption | omega) only [e_X7_key_28, e_X7_key_29, e_X7_key_30, e_X7_key_31, e_X7_key_32, e_X7_key_33, K.O.f2, K.B.g0, K.B.g1, Option.bind_some, q_answeringSlotB K.B, xbk_i]
      by_cases w3 : w = nI 3
      · subst w3
        rw [show xsw [9, 18, 28, 34, 43, 49, 55] 0 61 (nI 3) = 34 by decide]
        simp only [if_true, if_false, show ¬ nI 3 = nI 0 by decide, show ¬ nI 3 = nI 1 by decide, show ¬ nI 3 = nI 2 by decide]
        simp (disch := first | assumption | omega) only [e_X7_key_34, e_X7_key_35, e_X7_key_36, e_X7_key_37, e_X7_key_38, e_X7_key_39, e_X7_key_40, e_X7_key_41, e_X7_key_42, K.O.f2, K.B.g0, K.B.g1, Option.bind_some, q_answeringSlotB K.B, xbk_i, q_ruleOf K.B hd (fun s hs => tS_lt hs)]
      by_cases w4 : w = nI 4
      · subst w4
        rw [show xsw [9, 18, 28, 34, 43, 49, 55] 0 61 (nI 4) = 43 by decide]
        simp only [if_true, if_false, show ¬ nI 4 = nI 0 by decide, show ¬ nI 4 = nI 1 by decide, show ¬ nI 4 = nI 2 by decide, show ¬ nI 4 = nI 3 by decide]
        simp (disch := first | assumption | omega) only [e_X7_key_43, e_X7_key_44, e_X7_key_45, e_X7_key_46, e_X7_key_47, e_X7_key_48, K.O.f2, K.B.g0, K.B.g1, Option.bind_some, q_rfB K.B, xbk_i]
      by_cases w5 : w = nI 5
      · subst w5
        rw [show xsw [9, 18, 28, 34, 43, 49, 55] 0 61 (nI 5) = 49 by decide]
        simp only [if_true, if_false, show ¬ nI 5 = nI 0 by decide, show ¬ nI 5 = nI 1 by decide, show ¬ nI 5 = nI 2 by decide, show ¬ nI 5 = nI 3 by decide, show ¬ nI 5 = nI 4 by decide]
        simp (disch := first | assumption | omega) only [e_X7_key_49, e_X7_key_50, e_X7_key_51, e_X7_key_52, e_X7_key_53, e_X7_key_54, K.O.f2, K.B.g0, K.B.g1, Option.bind_some, q_rulesThatHave L, xbk_i]
      by_cases w6 : w = nI 6
      · subst w6
        rw [show xsw [9, 18, 28, 34, 43, 49, 55] 0 61 (nI 6) = 55 by decide]
        simp only [if_true, if_false, show ¬ nI 6 = nI 0 by decide, show ¬ nI 6 = nI 1 by decide, show ¬ nI 6 = nI 2 by decide, show ¬ nI 6 = nI 3 by decide, show ¬ nI 6 = nI 4 by decide, show ¬ nI 6 = nI 5 by decide]
        simp (disch := first | assumption | omega) only [e_X7_key_55, e_X7_key_56, e_X7_key_57, e_X7_key_58, e_X7_key_59, e_X7_key_60, K.O.f2, K.B.g0, K.B.g1, Option.bind_some, q_bkB K.B, xbk_i]
      rw [show xsw [9, 18, 28, 34, 43, 49, 55] 0 61 w = 61 by simp only [xsw, w0, w1, w2, w3, w4, w5, w6, if_false]]
      simp only [w0, w1, w2, w3, w4, w5, w6, if_false, e_X7_key_61, e_X7_key_62]
    · rw [decide_eq_false (fun hh => g2 hh.2), if_neg (by decide)]
      simp only [e_X7_key_0, e_X7_key_1, e_X7_key_2, e_X7_key_3, e_X7_key_4, e_X7_key_5, e_X7_key_6, g1, g2, if_false]
theorem q_keys (K : Cr h c S) (hd : dst S.l) (w : Int32) : xc XP (d + 14) 96 [.ref c, .int w] h = some (some (.int (aKeys S w)), h) := by
  have c0 := K.B.k
  have L := K.B.L
  have c1 := L.c
  have c2 := K.B.t
  have f0 := L.f0
  have h16 := L.1
  have hct := ct_le (covB S.l) S.l.length
  unfold aKeys
  rw [n_X7_keys]
  simp only [e_X7_keys_0, e_X7_keys_1]
  by_cases w0 : w = nI 0
  · subst w0
    rw [show xsw [2, 6, 10, 15, 20] 0 30 (nI 0) = 2 by decide]
    simp only [if_true, if_false]
    simp (disch := first | assumption | omega) only [e_X7_keys_2, e_X7_keys_3, e_X7_keys_4, e_X7_keys_5, K.O.f2, K.B.g0, K.B.g1, Option.bind_some, q_keysWithoutAnswer K.B, xbk_i]
  by_cases w1 : w = nI 1
  · subst w1
    rw [show xsw [2, 6, 10, 15, 20] 0 30 (nI 1) = 6 by decide]
    simp only [if_true, if_false, show ¬ nI 1 = nI 0 by decide]
    simp (disch := first | assumption | omega) only [e_X7_keys_6, e_X7_keys_7, e_X7_keys_8, e_X7_keys_9, K.O.f2, K.B.g0, K.B.g1, Option.bind_some, q_keysAnsweredOtherwise K.B hd, xbk_i]
  by_cases w2 : w = nI 2
  · subst w2
    rw [show xsw [2, 6, 10, 15, 20] 0 30 (nI 2) = 10 by decide]
    simp only [if_true, if_false, show ¬ nI 2 = nI 0 by decide, show ¬ nI 2 = nI 1 by decide]
    simp (disch := first | assumption | omega) only [e_X7_keys_10, e_X7_keys_11, e_X7_keys_12, e_X7_keys_13, e_X7_keys_14, K.O.f2, K.B.g0, K.B.g1, Option.bind_some, q_abB K.B, xbk_i]
  by_cases w3 : w = nI 3
  · subst w3
    rw [show xsw [2, 6, 10, 15, 20] 0 30 (nI 3) = 15 by decide]
    simp only [if_true, if_false, show ¬ nI 3 = nI 0 by decide, show ¬ nI 3 = nI 1 by decide, show ¬ nI 3 = nI 2 by decide]
    simp (disch := first | assumption | omega) only [e_X7_keys_15, e_X7_keys_16, e_X7_keys_17, e_X7_keys_18, e_X7_keys_19, K.O.f2, K.B.g0, K.B.g1, Option.bind_some, q_mbB K.B, xbk_i]
  by_cases w4 : w = nI 4
  · subst w4
    rw [show xsw [2, 6, 10, 15, 20] 0 30 (nI 4) = 20 by decide]
    simp only [if_true, if_false, show ¬ nI 4 = nI 0 by decide, show ¬ nI 4 = nI 1 by decide, show ¬ nI 4 = nI 2 by decide, show ¬ nI 4 = nI 3 by decide]
    simp (disch := first | assumption | omega) only [e_X7_keys_20, e_X7_keys_21, e_X7_keys_22, e_X7_keys_23, e_X7_keys_24, e_X7_keys_25, e_X7_keys_26, e_X7_keys_27, e_X7_keys_28, e_X7_keys_29, K.O.f2, K.B.g0, K.B.g1, Option.bind_some, f0, q_coveredRules L, xbk_i, pk_sub]
  rw [show xsw [2, 6, 10, 15, 20] 0 30 w = 30 by simp only [xsw, w0, w1, w2, w3, w4, if_false]]
  simp only [w0, w1, w2, w3, w4, if_false, e_X7_keys_30, e_X7_keys_31]
theorem q_count (K : Cr h c S) (hd : dst S.l) (w : Int32) : xc XP (d + 14) 97 [.ref c, .int w] h = some (some (.int (aCount S w)), h) := by
  have c0 := K.B.k
  have L := K.B.L
  have c1 := L.c
  have c2 := K.B.t
  have f0 := L.f0
  have h16 := L.1
  have hr : rws S.s ≤ 16 := ct_le _ _
  unfold aCount
  rw [n_X7_count]
  simp only [e_X7_count_0, e_X7_count_1]
  by_cases w0 : w = nI 0
  · subst w0
    rw [show xsw [2, 7, 12, 19, 24, 29, 33, 37, 42] 0 47 (nI 0) = 2 by decide]
    simp only [if_true, if_false]
    simp (disch := first | assumption | omega) only [e_X7_count_2, e_X7_count_3, e_X7_count_4, e_X7_count_5, e_X7_count_6, K.O.f2, K.B.g0, K.B.g1, Option.bind_some, f0]
  by_cases w1 : w = nI 1
  · subst w1
    rw [show xsw [2, 7, 12, 19, 24, 29, 33, 37, 42] 0 47 (nI 1) = 7 by decide]
    simp only [if_true, if_false, show ¬ nI 1 = nI 0 by decide]
    simp (disch := first | assumption | omega) only [e_X7_count_7, e_X7_count_8, e_X7_count_9, e_X7_count_10, e_X7_count_11, K.O.f2, K.B.g0, K.B.g1, Option.bind_some, q_rowsB K.B, xbk_i]
  by_cases w2 : w = nI 2
  · subst w2
    rw [show xsw [2, 7, 12, 19, 24, 29, 33, 37, 42] 0 47 (nI 2) = 12 by decide]
    simp only [if_true, if_false, show ¬ nI 2 = nI 0 by decide, show ¬ nI 2 = nI 1 by decide]
    simp (disch := first | assumption | omega) only [e_X7_count_12, e_X7_count_13, e_X7_count_14, e_X7_count_15, e_X7_count_16, e_X7_count_17, e_X7_count_18, K.O.f2, K.B.g0, K.B.g1, Option.bind_some, q_rowsB K.B, xbk_i, pk_sub]
  by_cases w3 : w = nI 3
  · subst w3
    rw [show xsw [2, 7, 12, 19, 24, 29, 33, 37, 42] 0 47 (nI 3) = 19 by decide]
    simp only [if_true, if_false, show ¬ nI 3 = nI 0 by decide, show ¬ nI 3 = nI 1 by decide, show ¬ nI 3 = nI 2 by decide]
    simp (disch := first | assumption | omega) only [e_X7_count_19, e_X7_count_20, e_X7_count_21, e_X7_count_22, e_X7_count_23, K.O.f2, K.B.g0, K.B.g1, Option.bind_some, q_coveredRules L, xbk_i]
  by_cases w4 : w = nI 4
  · subst w4
    rw [show xsw [2, 7, 12, 19, 24, 29, 33, 37, 42] 0 47 (nI 4) = 24 by decide]
    simp only [if_true, if_false, show ¬ nI 4 = nI 0 by decide, show ¬ nI 4 = nI 1 by decide, show ¬ nI 4 = nI 2 by decide, show ¬ nI 4 = nI 3 by decide]
    simp (disch := first | assumption | omega) only [e_X7_count_24, e_X7_count_25, e_X7_count_26, e_X7_count_27, e_X7_count_28, K.O.f2, K.B.g0, K.B.g1, Option.bind_some, q_idleRules L, xbk_i]
  by_cases w5 : w = nI 5
  · subst w5
    rw [show xsw [2, 7, 12, 19, 24, 29, 33, 37, 42] 0 47 (nI 5) = 29 by decide]
    simp only [if_true, if_false, show ¬ nI 5 = nI 0 by decide, show ¬ nI 5 = nI 1 by decide, show ¬ nI 5 = nI 2 by decide, show ¬ nI 5 = nI 3 by decide, show ¬ nI 5 = nI 4 by decide]
    simp (disch := first | assumption | omega) only [e_X7_count_29, e_X7_count_30, e_X7_count_31, e_X7_count_32, K.O.f2, K.B.g0, K.B.g1, Option.bind_some, K.O.f6, K.Q.f2]
  by_cases w6 : w = nI 6
  · subst w6
    rw [show xsw [2, 7, 12, 19, 24, 29, 33, 37, 42] 0 47 (nI 6) = 33 by decide]
    simp only [if_true, if_false, show ¬ nI 6 = nI 0 by decide, show ¬ nI 6 = nI 1 by decide, show ¬ nI 6 = nI 2 by decide, show ¬ nI 6 = nI 3 by decide, show ¬ nI 6 = nI 4 by decide, show ¬ nI 6 = nI 5 by decide]
    simp (disch := first | assumption | omega) only [e_X7_count_33, e_X7_count_34, e_X7_count_35, e_X7_count_36, K.O.f2, K.B.g0, K.B.g1, Option.bind_some, K.O.f0, K.X.f1]
  by_cases w7 : w = nI 7
  · subst w7
    rw [show xsw [2, 7, 12, 19, 24, 29, 33, 37, 42] 0 47 (nI 7) = 37 by decide]
    simp only [if_true, if_false, show ¬ nI 7 = nI 0 by decide, show ¬ nI 7 = nI 1 by decide, show ¬ nI 7 = nI 2 by decide, show ¬ nI 7 = nI 3 by decide, show ¬ nI 7 = nI 4 by decide, show ¬ nI 7 = nI 5 by decide, show ¬ nI 7 = nI 6 by decide]
    simp (disch := first | assumption | omega) only [e_X7_count_37, e_X7_count_38, e_X7_count_39, e_X7_count_40, e_X7_count_41, K.O.f2, K.B.g0, K.B.g1, Option.bind_some, q_prB K.B hd, xbk_i]
  by_cases w8 : w = nI 8
  · subst w8
    rw [show xsw [2, 7, 12, 19, 24, 29, 33, 37, 42] 0 47 (nI 8) = 42 by decide]
    simp only [if_true, if_false, show ¬ nI 8 = nI 0 by decide, show ¬ nI 8 = nI 1 by decide, show ¬ nI 8 = nI 2 by decide, show ¬ nI 8 = nI 3 by decide, show ¬ nI 8 = nI 4 by decide, show ¬ nI 8 = nI 5 by decide, show ¬ nI 8 = nI 6 by decide, show ¬ nI 8 = nI 7 by decide]
    simp (disch := first | assumption | omega) only [e_X7_count_42, e_X7_count_43, e_X7_count_44, e_X7_count_45, e_X7_count_46, K.O.f2, K.B.g0, K.B.g1, Option.bind_some, q_dfB K.B, xbk_i]
  rw [show xsw [2, 7, 12, 19, 24, 29, 33, 37, 42] 0 47 w = 47 by simp only [xsw, w0, w1, w2, w3, w4, w5, w6, w7, w8, if_false]]
  simp only [w0, w1, w2, w3, w4, w5, w6, w7, w8, if_false, e_X7_count_47, e_X7_count_48]
theorem em_some {σ : Sl} {s : Nat} {x : Nat × Nat} (hx : σ s = some x) : emA σ s = false := by unfold emA; rw [hx]; rfl
theorem em_none {σ : Sl} {s : Nat} (hx : σ s = none) : emA σ s = true := by unfold emA; rw [hx]; rfl
theorem q_slot (K : Cr h c S) (hd : dst S.l) (s w : Int32) : xc XP (d + 14) 91 [.ref c, .int s, .int w] h = some (some (.int (aSlot S s w)), h) := by
  have c0 := K.B.k
  have c2 := K.B.t
  unfold aSlot
  rw [n_X7_slot]
  cases hs : isSl s with
  | false => simp (disch := first | assumption | omega) only [e_X7_slot_0, e_X7_slot_1, e_X7_slot_2, e_X7_slot_3, e_X7_slot_4, e_X7_slot_5, e_X7_slot_6, e_X7_slot_7, e_X7_slot_8, e_X7_slot_9, q_isSlot2, hs, xbk_i, bI_f, if_true, Bool.false_eq_true, false_and, if_false]
  | true =>
    by_cases g1 : w < nI 0
    · rw [if_neg (fun hh => absurd g1 (Int32.not_lt.mpr hh.2.1))]
      simp (disch := first | assumption | omega) only [e_X7_slot_0, e_X7_slot_1, e_X7_slot_2, e_X7_slot_3, e_X7_slot_4, e_X7_slot_5, e_X7_slot_6, e_X7_slot_7, e_X7_slot_8, e_X7_slot_9, q_isSlot2, hs, xbk_i, bI_0, Bool.true_eq_false, if_false, g1, if_true]
    · by_cases g2 : w ≤ nI 3
      · rw [if_pos ⟨rfl, Int32.not_lt.mp g1, g2⟩]
        obtain ⟨n, hn, rfl⟩ := isSl_of hs
        rw [xN_nI (by omega)]
        cases hx : S.s n with
        | none =>
          simp (disch := first | assumption | omega) only [e_X7_slot_0, e_X7_slot_1, e_X7_slot_2, e_X7_slot_3, e_X7_slot_4, e_X7_slot_5, e_X7_slot_6, e_X7_slot_7, e_X7_slot_8, e_X7_slot_9, e_X7_slot_10, e_X7_slot_11, e_X7_slot_12, e_X7_slot_13, e_X7_slot_14, e_X7_slot_15, e_X7_slot_16, e_X7_slot_17, q_isSlot2, hs, xbk_i, bI_0, Bool.true_eq_false, if_false, g1, g2, if_true, K.O.f2, K.B.g1, Option.bind_some, q_emBr K.B, em_none hx]
        | some x =>
          have hP := K.B.lP hn hx
          have hr := q_ruleOf (d := d + 12) K.B hd (o := some n) (fun s hs => by cases hs; exact hn)
          have hr2 : rAt S.s (some n) = some x.1 := by unfold rAt; simp [hx]
          rw [hr2] at hr
          have hr : xc XP (d + 13) 6 [.ref (c + 4), .int (nI n)] h = some (some (.int (nI x.1)), h) := hr
          simp (disch := first | assumption | omega) only [e_X7_slot_0, e_X7_slot_1, e_X7_slot_2, e_X7_slot_3, e_X7_slot_4, e_X7_slot_5, e_X7_slot_6, e_X7_slot_7, e_X7_slot_8, e_X7_slot_9, e_X7_slot_10, e_X7_slot_11, e_X7_slot_12, e_X7_slot_13, e_X7_slot_14, e_X7_slot_15, e_X7_slot_16, e_X7_slot_17, e_X7_slot_18, e_X7_slot_19, q_isSlot2, hs, xbk_i, bI_0, Bool.true_eq_false, if_false, g1, g2, if_true, K.O.f2, K.B.g1, Option.bind_some, q_emBr K.B, em_some hx]
          by_cases w0 : w = nI 0
          · subst w0
            rw [show xsw [20, 25, 32] 0 38 (nI 0) = 20 by decide]
            simp (disch := first | assumption | omega) only [if_true, e_X7_slot_20, e_X7_slot_21, e_X7_slot_22, e_X7_slot_23, e_X7_slot_24, K.O.f2, Option.bind_some, hr, xbk_i]
          by_cases w1 : w = nI 1
          · subst w1
            rw [show xsw [20, 25, 32] 0 38 (nI 1) = 25 by decide]
            simp (disch := first | assumption | omega) only [if_true, if_false, show ¬ nI 1 = nI 0 by decide, e_X7_slot_25, e_X7_slot_26, e_X7_slot_27, e_X7_slot_28, e_X7_slot_29, e_X7_slot_30, e_X7_slot_31, K.O.f2, K.B.g1, hP.1, hP.2, Option.bind_some]
          by_cases w2 : w = nI 2
          · subst w2
            rw [show xsw [20, 25, 32] 0 38 (nI 2) = 32 by decide]
            simp (disch := first | assumption | omega) only [if_true, if_false, show ¬ nI 2 = nI 0 by decide, show ¬ nI 2 = nI 1 by decide, e_X7_slot_32, e_X7_slot_33, e_X7_slot_34, e_X7_slot_35, e_X7_slot_36, e_X7_slot_37, K.O.f2, K.B.g1, Option.bind_some, q_sgB K.B hn hx, xbk_i]
          rw [show xsw [20, 25, 32] 0 38 w = 38 by simp only [xsw, w0, w1, w2, if_false]]
          simp (disch := first | assumption | omega) only [w0, w1, w2, if_false, e_X7_slot_38, e_X7_slot_39, e_X7_slot_40, e_X7_slot_41, e_X7_slot_42, e_X7_slot_43, K.O.f2, K.B.g1, Option.bind_some, q_kaB K.B hn, xbk_i]
      · rw [if_neg (fun hh => g2 hh.2.2)]
        simp (disch := first | assumption | omega) only [e_X7_slot_0, e_X7_slot_1, e_X7_slot_2, e_X7_slot_3, e_X7_slot_4, e_X7_slot_5, e_X7_slot_6, e_X7_slot_7, e_X7_slot_8, e_X7_slot_9, q_isSlot2, hs, xbk_i, bI_0, Bool.true_eq_false, if_false, g1, g2]
theorem q_reach (K : Cr h c S) (s w : Int32) : xc XP (d + 14) 92 [.ref c, .int s, .int w] h = some (some (.int (aReach S s w)), h) := by
  have c2 := K.B.t
  unfold aReach
  rw [n_X7_reach]
  cases hs : isSl s with
  | false => simp (disch := first | assumption | omega) only [e_X7_reach_0, e_X7_reach_1, e_X7_reach_2, e_X7_reach_3, e_X7_reach_4, e_X7_reach_5, e_X7_reach_6, e_X7_reach_7, e_X7_reach_8, e_X7_reach_9, q_isSlot2, hs, xbk_i, bI_f, if_true, Bool.false_eq_true, false_and, if_false]
  | true =>
    by_cases g1 : w < nI 0
    · rw [if_neg (fun hh => absurd g1 (Int32.not_lt.mpr hh.2.1))]
      simp (disch := first | assumption | omega) only [e_X7_reach_0, e_X7_reach_1, e_X7_reach_2, e_X7_reach_3, e_X7_reach_4, e_X7_reach_5, e_X7_reach_6, e_X7_reach_7, e_X7_reach_8, e_X7_reach_9, q_isSlot2, hs, xbk_i, bI_0, Bool.true_eq_false, if_false, g1, if_true]
    · by_cases g2 : w ≤ nI 2
      · rw [if_pos ⟨rfl, Int32.not_lt.mp g1, g2⟩]
        obtain ⟨n, hn, rfl⟩ := isSl_of hs
        rw [xN_nI (by omega)]
        cases hx : S.s n with
        | none =>
          simp (disch := first | assumption | omega) only [e_X7_reach_0, e_X7_reach_1, e_X7_reach_2, e_X7_reach_3, e_X7_reach_4, e_X7_reach_5, e_X7_reach_6, e_X7_reach_7, e_X7_reach_8, e_X7_reach_9, e_X7_reach_10, e_X7_reach_11, e_X7_reach_12, e_X7_reach_13, e_X7_reach_14, e_X7_reach_15, e_X7_reach_16, e_X7_reach_17, q_isSlot2, hs, xbk_i, bI_0, Bool.true_eq_false, if_false, g1, g2, if_true, K.O.f2, K.B.g1, Option.bind_some, q_emBr K.B, em_none hx]
        | some x =>
          simp (disch := first | assumption | omega) only [e_X7_reach_0, e_X7_reach_1, e_X7_reach_2, e_X7_reach_3, e_X7_reach_4, e_X7_reach_5, e_X7_reach_6, e_X7_reach_7, e_X7_reach_8, e_X7_reach_9, e_X7_reach_10, e_X7_reach_11, e_X7_reach_12, e_X7_reach_13, e_X7_reach_14, e_X7_reach_15, e_X7_reach_16, e_X7_reach_17, e_X7_reach_18, e_X7_reach_19, q_isSlot2, hs, xbk_i, bI_0, Bool.true_eq_false, if_false, g1, g2, if_true, K.O.f2, K.B.g1, Option.bind_some, q_emBr K.B, em_some hx]
          obtain ⟨m, hm, rfl⟩ := nn_of (Int32.not_lt.mp g1)
          have hm3 : m ≤ 2 := (nI_leI hm (by decide)).mp g2
          rw [nI_toInt hm]
          rcases (show m = 0 ∨ m = 1 ∨ m = 2 by omega) with e | e | e <;> subst e
          · rw [show xlk [(0, 20), (1, 26)] 32 ((0 : Nat) : Int) = 20 by decide]
            simp (disch := first | assumption | omega) only [if_true, e_X7_reach_20, e_X7_reach_21, e_X7_reach_22, e_X7_reach_23, e_X7_reach_24, e_X7_reach_25, K.O.f2, K.B.g1, Option.bind_some, q_loB K.B hn hx, xbk_i]
          · rw [show xlk [(0, 20), (1, 26)] 32 ((1 : Nat) : Int) = 26 by decide]
            simp (disch := first | assumption | omega) only [if_true, if_false, show ¬ nI 1 = nI 0 by decide, e_X7_reach_26, e_X7_reach_27, e_X7_reach_28, e_X7_reach_29, e_X7_reach_30, e_X7_reach_31, K.O.f2, K.B.g1, Option.bind_some, q_hiB K.B hn hx, xbk_i]
          · rw [show xlk [(0, 20), (1, 26)] 32 ((2 : Nat) : Int) = 32 by decide]
            simp (disch := first | assumption | omega) only [if_true, if_false, show ¬ nI 2 = nI 0 by decide, show ¬ nI 2 = nI 1 by decide, e_X7_reach_32, e_X7_reach_33, e_X7_reach_34, e_X7_reach_35, e_X7_reach_36, e_X7_reach_37, K.O.f2, K.B.g1, Option.bind_some, q_nopB K.B hn hx, xbk_i]
      · rw [if_neg (fun hh => g2 hh.2.2)]
        simp (disch := first | assumption | omega) only [e_X7_reach_0, e_X7_reach_1, e_X7_reach_2, e_X7_reach_3, e_X7_reach_4, e_X7_reach_5, e_X7_reach_6, e_X7_reach_7, e_X7_reach_8, e_X7_reach_9, q_isSlot2, hs, xbk_i, bI_0, Bool.true_eq_false, if_false, g1, g2]
theorem q_meet (K : Cr h c S) (a b : Int32) : xc XP (d + 14) 93 [.ref c, .int a, .int b] h = some (some (.int (aMeet S a b)), h) := by
  have c2 := K.B.t
  unfold aMeet
  rw [n_X7_meet]
  cases ha : isSl a with
  | false => simp (disch := first | assumption | omega) only [e_X7_meet_0, e_X7_meet_1, e_X7_meet_2, e_X7_meet_3, e_X7_meet_4, e_X7_meet_5, e_X7_meet_6, e_X7_meet_7, e_X7_meet_8, e_X7_meet_9, e_X7_meet_10, q_isSlot2, ha, xbk_i, bI_f, if_true, Bool.false_eq_true, false_and, if_false]
  | true =>
    cases hb : isSl b with
    | false => simp (disch := first | assumption | omega) only [e_X7_meet_0, e_X7_meet_1, e_X7_meet_2, e_X7_meet_3, e_X7_meet_4, e_X7_meet_5, e_X7_meet_6, e_X7_meet_7, e_X7_meet_8, e_X7_meet_9, e_X7_meet_10, q_isSlot2, ha, hb, xbk_i, bI_0, if_true, Bool.false_eq_true, Bool.true_eq_false, false_and, and_false, if_false]
    | true =>
      by_cases hab : a = b
      · rw [if_neg (fun hh => hh.2.2 hab)]
        simp (disch := first | assumption | omega) only [e_X7_meet_0, e_X7_meet_1, e_X7_meet_2, e_X7_meet_3, e_X7_meet_4, e_X7_meet_5, e_X7_meet_6, e_X7_meet_7, e_X7_meet_8, e_X7_meet_9, e_X7_meet_10, q_isSlot2, ha, hb, xbk_i, bI_0, Bool.true_eq_false, if_false, hab, not_true]
      · rw [if_pos ⟨rfl, rfl, hab⟩]
        obtain ⟨n, hn, rfl⟩ := isSl_of ha
        obtain ⟨m, hm, rfl⟩ := isSl_of hb
        rw [xN_nI (by omega), xN_nI (by omega)]
        cases hx : S.s n with
        | none => simp (disch := first | assumption | omega) only [e_X7_meet_0, e_X7_meet_1, e_X7_meet_2, e_X7_meet_3, e_X7_meet_4, e_X7_meet_5, e_X7_meet_6, e_X7_meet_7, e_X7_meet_8, e_X7_meet_9, e_X7_meet_10, e_X7_meet_11, e_X7_meet_12, e_X7_meet_13, e_X7_meet_14, e_X7_meet_15, e_X7_meet_16, e_X7_meet_17, e_X7_meet_18, e_X7_meet_19, e_X7_meet_20, e_X7_meet_21, e_X7_meet_22, e_X7_meet_23, e_X7_meet_24, q_isSlot2, ha, hb, xbk_i, bI_0, Bool.true_eq_false, if_false, hab, not_false_eq_true, if_true, K.O.f2, K.B.g1, Option.bind_some, q_emBr K.B, em_none hx]
        | some x =>
          cases hy : S.s m with
          | none => simp (disch := first | assumption | omega) only [e_X7_meet_0, e_X7_meet_1, e_X7_meet_2, e_X7_meet_3, e_X7_meet_4, e_X7_meet_5, e_X7_meet_6, e_X7_meet_7, e_X7_meet_8, e_X7_meet_9, e_X7_meet_10, e_X7_meet_11, e_X7_meet_12, e_X7_meet_13, e_X7_meet_14, e_X7_meet_15, e_X7_meet_16, e_X7_meet_17, e_X7_meet_18, e_X7_meet_19, e_X7_meet_20, e_X7_meet_21, e_X7_meet_22, e_X7_meet_23, e_X7_meet_24, q_isSlot2, ha, hb, xbk_i, bI_0, Bool.true_eq_false, if_false, hab, not_false_eq_true, not_true, if_true, K.O.f2, K.B.g1, Option.bind_some, q_emBr K.B, em_some hx, em_none hy]
          | some y =>
            simp (disch := first | assumption | omega) only [e_X7_meet_0, e_X7_meet_1, e_X7_meet_2, e_X7_meet_3, e_X7_meet_4, e_X7_meet_5, e_X7_meet_6, e_X7_meet_7, e_X7_meet_8, e_X7_meet_9, e_X7_meet_10, e_X7_meet_11, e_X7_meet_12, e_X7_meet_13, e_X7_meet_14, e_X7_meet_15, e_X7_meet_16, e_X7_meet_17, e_X7_meet_18, e_X7_meet_19, e_X7_meet_20, e_X7_meet_21, e_X7_meet_22, e_X7_meet_23, e_X7_meet_24, e_X7_meet_25, e_X7_meet_26, e_X7_meet_27, e_X7_meet_28, e_X7_meet_29, e_X7_meet_30, e_X7_meet_31, e_X7_meet_32, e_X7_meet_33, e_X7_meet_34, e_X7_meet_35, q_isSlot2, ha, hb, xbk_i, bI_0, Bool.true_eq_false, if_false, hab, not_false_eq_true, not_true, if_true, K.O.f2, K.B.g1, Option.bind_some, q_emBr K.B, em_some hx, em_some hy, q_mtB K.B hn hm hx hy]
            cases mtX S.l x y <;> rfl
end Cls4R
