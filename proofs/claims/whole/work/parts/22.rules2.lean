/-! THE LIST of rules: its other reads, its writes -/
theorem oI_eq {o : Option Nat} {r : Nat} (ho : ∀ j, o = some j → j < 2 ^ 31) (hr : r < 2 ^ 31) : (oI o = nI r) = (o = some r) := by
  cases o with
  | none =>
    simp only [oI_none, eq_iff_iff]
    constructor
    · intro q; exact absurd q.symm (nI_n4 hr)
    · intro q; cases q
  | some j =>
    simp only [oI_some, Option.some.injEq, eq_iff_iff]
    exact nI_eq (ho j rfl) hr
def rwR (q : Rl) : Nat := rwF 6 q.2.2.1 q.2.2.2.1
theorem rwF_le : ∀ k f t, rwF k f t ≤ k
  | 0, _, _ => Nat.le_refl _
  | k + 1, f, t => by
    unfold rwF
    split
    · have := rwF_le k (f + psz f t) t; omega
    · omega
theorem lsB_len {l : List Rl} {but : Option Nat} {k j : Nat} (h : lsB l but k = some j) : j < l.length := lsB_lt _ _ h
section LstR
variable {h : XH} {r : Nat} {l : List Rl}
theorem q_rowsOf (L : Lst h r l) {d j : Nat} (hj : j < l.length) : xc XP (d + 2) 27 [.ref r, .int (nI j)] h = some (some (.int (nI (rwR (rlN l j)))), h) := by
  have h16 := L.1
  obtain ⟨v1, v2, v3, v4, v5⟩ := L.v hj
  rw [n_X3_rowsOf]
  simp (disch := first | assumption | omega) only [e_X3_rowsOf_0, e_X3_rowsOf_1, e_X3_rowsOf_2, e_X3_rowsOf_3, e_X3_rowsOf_4, e_X3_rowsOf_5, e_X3_rowsOf_6, e_X3_rowsOf_7, e_X3_rowsOf_8, e_X3_rowsOf_9, L.f5, L.f6, L.lF, L.lL, Option.bind_some, q_rowsOfSpan, xbk_i]
  rfl
def allR (l : List Rl) : Nat := itr (fun j a => a + rwR (rlN l j)) 0 l.length
theorem allR_le (l : List Rl) : ∀ n, itr (fun j a => a + rwR (rlN l j)) 0 n ≤ 6 * n := by
  intro n
  induction n with
  | zero => exact Nat.le_refl _
  | succ n ih =>
    have hw : rwR (rlN l n) ≤ 6 := rwF_le 6 _ _
    show itr _ 0 n + rwR _ ≤ _
    omega
theorem q_allRows (L : Lst h r l) {d : Nat} : xc XP (d + 3) 28 [.ref r] h = some (some (.int (nI (allR l))), h) := by
  have h16 := L.1
  have hc := L.c
  rw [n_X3_allRows]
  simp only [e_X3_allRows_0, e_X3_allRows_1, e_X3_allRows_2, e_X3_allRows_3]
  have key := loop_itr (fun j a => xe XP (d + 3) 28 (4, [.ref r, .int (nI a), .int (nI j)], [], h)) (fun j a => a + rwR (rlN l j)) 0 l.length (by
    intro j hj
    rw [e_X3_allRows_4]
    simp (disch := first | assumption | omega) only [e_X3_allRows_5, e_X3_allRows_6, e_X3_allRows_7, e_X3_allRows_8, e_X3_allRows_9, e_X3_allRows_10, e_X3_allRows_11, e_X3_allRows_12, e_X3_allRows_13, e_X3_allRows_14, e_X3_allRows_15, L.f0, Option.bind_some, q_rowsOf L, xbk_i, nI_leI, nI_add, if_f]) l.length (Nat.le_refl _)
  rw [key]
  simp (disch := first | assumption | omega) only [e_X3_allRows_4, e_X3_allRows_5, e_X3_allRows_6, e_X3_allRows_7, e_X3_allRows_16, e_X3_allRows_17, L.f0, Option.bind_some, nI_leI, if_t]
  rfl
theorem q_rulesThatHave (L : Lst h r l) {d k : Nat} (hk : k < 128) : xc XP (d + 1) 29 [.ref r, .int (nI k)] h = some (some (.int (nI (ct (fun j => hasR (rlN l j) k) l.length))), h) := by
  have h16 := L.1
  have hc := L.c
  rw [n_X3_rulesThatHave]
  simp only [e_X3_rulesThatHave_0, e_X3_rulesThatHave_1, e_X3_rulesThatHave_2, e_X3_rulesThatHave_3]
  have key := loop_ct (fun j c => xe XP (d + 1) 29 (4, [.ref r, .int (nI k), .int (nI c), .int (nI j)], [], h)) (fun j => hasR (rlN l j) k) l.length (by
    intro j c hj hcj
    rw [e_X3_rulesThatHave_4]
    simp (disch := first | assumption | omega) only [e_X3_rulesThatHave_5, e_X3_rulesThatHave_6, e_X3_rulesThatHave_7, e_X3_rulesThatHave_8, e_X3_rulesThatHave_9, e_X3_rulesThatHave_10, e_X3_rulesThatHave_11, e_X3_rulesThatHave_12, e_X3_rulesThatHave_13, e_X3_rulesThatHave_14, e_X3_rulesThatHave_15, e_X3_rulesThatHave_16, e_X3_rulesThatHave_17, e_X3_rulesThatHave_18, e_X3_rulesThatHave_19, e_X3_rulesThatHave_20, L.f0, Option.bind_some, q_has L, xbk_i, bI_0, nI_leI, nI_add, if_f]
    cases hasR (rlN l j) k <;> simp) l.length (Nat.le_refl _)
  rw [key]
  simp (disch := first | assumption | omega) only [e_X3_rulesThatHave_4, e_X3_rulesThatHave_5, e_X3_rulesThatHave_6, e_X3_rulesThatHave_7, e_X3_rulesThatHave_21, e_X3_rulesThatHave_22, L.f0, Option.bind_some, nI_leI, if_t]
theorem q_keysHadBy (L : Lst h r l) {d j : Nat} (hj : j < l.length) : xc XP (d + 1) 30 [.ref r, .int (nI j)] h = some (some (.int (nI (ct (hasR (rlN l j)) 128))), h) := by
  have h16 := L.1
  have hc := L.c
  rw [n_X3_keysHadBy]
  simp only [e_X3_keysHadBy_0, e_X3_keysHadBy_1, e_X3_keysHadBy_2, e_X3_keysHadBy_3]
  have key := loop_ct (fun k c => xe XP (d + 1) 30 (4, [.ref r, .int (nI j), .int (nI c), .int (nI k)], [], h)) (hasR (rlN l j)) 128 (by
    intro k c hk hcj
    rw [e_X3_keysHadBy_4]
    simp (disch := first | assumption | omega) only [e_X3_keysHadBy_5, e_X3_keysHadBy_6, e_X3_keysHadBy_7, e_X3_keysHadBy_8, e_X3_keysHadBy_9, e_X3_keysHadBy_10, e_X3_keysHadBy_11, e_X3_keysHadBy_12, e_X3_keysHadBy_13, e_X3_keysHadBy_14, e_X3_keysHadBy_15, e_X3_keysHadBy_16, e_X3_keysHadBy_17, e_X3_keysHadBy_18, e_X3_keysHadBy_19, q_has L, xbk_i, bI_0, nI_leI, nI_add, if_f]
    cases hasR (rlN l j) k <;> simp) 128 (Nat.le_refl _)
  rw [key]
  simp (disch := first | assumption | omega) only [e_X3_keysHadBy_4, e_X3_keysHadBy_5, e_X3_keysHadBy_6, e_X3_keysHadBy_20, e_X3_keysHadBy_21, nI_leI, if_t]
def kyB (l : List Rl) (j k : Nat) : Bool := hasR (rlN l j) k && decide (lsB l none k = some j)
theorem q_keysAnsweredByR (L : Lst h r l) {d j : Nat} (hj : j < l.length) : xc XP (d + 3) 31 [.ref r, .int (nI j)] h = some (some (.int (nI (ct (kyB l j) 128))), h) := by
  have h16 := L.1
  have hc := L.c
  rw [n_X3_keysAnsweredBy]
  simp only [e_X3_keysAnsweredBy_0, e_X3_keysAnsweredBy_1, e_X3_keysAnsweredBy_2, e_X3_keysAnsweredBy_3]
  have key := loop_ct (fun k c => xe XP (d + 3) 31 (4, [.ref r, .int (nI j), .int (nI c), .int (nI k)], [], h)) (kyB l j) 128 (by
    intro k c hk hcj
    have ho : (oI (lsB l none k) = nI j) = (lsB l none k = some j) := oI_eq (fun i hi => by have := lsB_len hi; omega) (by omega)
    rw [e_X3_keysAnsweredBy_4]
    simp (disch := first | assumption | omega) only [e_X3_keysAnsweredBy_5, e_X3_keysAnsweredBy_6, e_X3_keysAnsweredBy_7, e_X3_keysAnsweredBy_8, e_X3_keysAnsweredBy_9, e_X3_keysAnsweredBy_10, e_X3_keysAnsweredBy_11, e_X3_keysAnsweredBy_12, e_X3_keysAnsweredBy_13, e_X3_keysAnsweredBy_14, e_X3_keysAnsweredBy_15, e_X3_keysAnsweredBy_16, e_X3_keysAnsweredBy_17, e_X3_keysAnsweredBy_18, e_X3_keysAnsweredBy_19, e_X3_keysAnsweredBy_20, e_X3_keysAnsweredBy_21, e_X3_keysAnsweredBy_22, e_X3_keysAnsweredBy_23, e_X3_keysAnsweredBy_24, q_has L, q_answeringRule L, ho, xbk_i, bI_0, nI_leI, nI_add, if_f]
    unfold kyB
    cases hasR (rlN l j) k <;> by_cases g : lsB l none k = some j <;> simp [g]) 128 (Nat.le_refl _)
  rw [key]
  simp (disch := first | assumption | omega) only [e_X3_keysAnsweredBy_4, e_X3_keysAnsweredBy_5, e_X3_keysAnsweredBy_6, e_X3_keysAnsweredBy_25, e_X3_keysAnsweredBy_26, nI_leI, if_t]
def covB (l : List Rl) (j : Nat) : Bool := (fup (kyB l j) 0 128).isNone
theorem q_isCovered (L : Lst h r l) {d j : Nat} (hj : j < l.length) : xc XP (d + 3) 32 [.ref r, .int (nI j)] h = some (some (.int (bI (covB l j))), h) := by
  have h16 := L.1
  have hc := L.c
  rw [n_X3_isCovered]
  simp only [e_X3_isCovered_0, e_X3_isCovered_1]
  have key := loop_fup (fun k => xe XP (d + 3) 32 (2, [.ref r, .int (nI j), .int (nI k)], [], h)) (kyB l j) (fun _ => some (some (.int (nI 0)), h)) 128 (by
    intro k hk
    have ho : (oI (lsB l none k) = nI j) = (lsB l none k = some j) := oI_eq (fun i hi => by have := lsB_len hi; omega) (by omega)
    rw [e_X3_isCovered_2]
    simp (disch := first | assumption | omega) only [e_X3_isCovered_3, e_X3_isCovered_4, e_X3_isCovered_5, e_X3_isCovered_6, e_X3_isCovered_7, e_X3_isCovered_8, e_X3_isCovered_9, e_X3_isCovered_10, e_X3_isCovered_11, e_X3_isCovered_12, e_X3_isCovered_13, e_X3_isCovered_14, e_X3_isCovered_15, e_X3_isCovered_16, e_X3_isCovered_17, e_X3_isCovered_18, q_has L, q_answeringRule L, ho, xbk_i, bI_0, nI_leI, nI_add, if_f, rk_0, if_t]
    unfold kyB
    cases hasR (rlN l j) k <;> by_cases g : lsB l none k = some j <;> simp [g]) 128 0 rfl
  rw [key]
  unfold covB
  cases fup (kyB l j) 0 128 with
  | some s => rfl
  | none =>
    simp (disch := first | assumption | omega) only [e_X3_isCovered_2, e_X3_isCovered_3, e_X3_isCovered_4, e_X3_isCovered_19, e_X3_isCovered_20, nI_leI, if_t, rk_1]
    rfl
def idB (l : List Rl) (j k : Nat) : Bool := hasR (rlN l j) k && !decide (ansR l (lsB l none k) = ansR l (lsB l (some j) k))
def idlB (l : List Rl) (j : Nat) : Bool := (fup (idB l j) 0 128).isNone
theorem q_isIdle (L : Lst h r l) {d j : Nat} (hj : j < l.length) : xc XP (d + 3) 33 [.ref r, .int (nI j)] h = some (some (.int (bI (idlB l j))), h) := by
  have h16 := L.1
  have hc := L.c
  rw [n_X3_isIdle]
  simp only [e_X3_isIdle_0, e_X3_isIdle_1]
  have key := loop_fup (fun k => xe XP (d + 3) 33 (2, [.ref r, .int (nI j), .int (nI k)], [], h)) (idB l j) (fun _ => some (some (.int (nI 0)), h)) 128 (by
    intro k hk
    have q1 := q_answerOfR L (d := d + 2) (o := lsB l none k) (fun i hi => lsB_len hi)
    have q2 := q_answerOfR L (d := d + 2) (o := lsB l (some j) k) (fun i hi => lsB_len hi)
    have q3 := q_answeringRuleBut L (d := d + 1) (but := some j) (fun i hi => by cases hi; exact hj) hk
    rw [oI_some] at q3
    rw [e_X3_isIdle_2]
    simp (disch := first | assumption | omega) only [e_X3_isIdle_3, e_X3_isIdle_4, e_X3_isIdle_5, e_X3_isIdle_6, e_X3_isIdle_7, e_X3_isIdle_8, e_X3_isIdle_9, e_X3_isIdle_10, e_X3_isIdle_11, e_X3_isIdle_12, e_X3_isIdle_13, e_X3_isIdle_14, e_X3_isIdle_15, e_X3_isIdle_16, e_X3_isIdle_17, e_X3_isIdle_18, e_X3_isIdle_19, e_X3_isIdle_20, e_X3_isIdle_21, e_X3_isIdle_22, e_X3_isIdle_23, e_X3_isIdle_24, e_X3_isIdle_25, q_has L, q_answeringRule L, q1, q2, q3, xbk_i, bI_0, nI_leI, nI_add, if_f, rk_0, if_t]
    unfold idB
    cases hasR (rlN l j) k <;> by_cases g : ansR l (lsB l none k) = ansR l (lsB l (some j) k) <;> simp [g]) 128 0 rfl
  rw [key]
  unfold idlB
  cases fup (idB l j) 0 128 with
  | some s => rfl
  | none =>
    simp (disch := first | assumption | omega) only [e_X3_isIdle_2, e_X3_isIdle_3, e_X3_isIdle_4, e_X3_isIdle_26, e_X3_isIdle_27, nI_leI, if_t, rk_1]
    rfl
theorem q_coveredRules (L : Lst h r l) {d : Nat} : xc XP (d + 4) 34 [.ref r] h = some (some (.int (nI (ct (covB l) l.length))), h) := by
  have h16 := L.1
  have hc := L.c
  rw [n_X3_coveredRules]
  simp only [e_X3_coveredRules_0, e_X3_coveredRules_1, e_X3_coveredRules_2, e_X3_coveredRules_3]
  have key := loop_ct (fun j c => xe XP (d + 4) 34 (4, [.ref r, .int (nI c), .int (nI j)], [], h)) (covB l) l.length (by
    intro j c hj hcj
    rw [e_X3_coveredRules_4]
    simp (disch := first | assumption | omega) only [e_X3_coveredRules_5, e_X3_coveredRules_6, e_X3_coveredRules_7, e_X3_coveredRules_8, e_X3_coveredRules_9, e_X3_coveredRules_10, e_X3_coveredRules_11, e_X3_coveredRules_12, e_X3_coveredRules_13, e_X3_coveredRules_14, e_X3_coveredRules_15, e_X3_coveredRules_16, e_X3_coveredRules_17, e_X3_coveredRules_18, e_X3_coveredRules_19, L.f0, Option.bind_some, q_isCovered L, xbk_i, bI_0, nI_leI, nI_add, if_f]
    cases covB l j <;> simp) l.length (Nat.le_refl _)
  rw [key]
  simp (disch := first | assumption | omega) only [e_X3_coveredRules_4, e_X3_coveredRules_5, e_X3_coveredRules_6, e_X3_coveredRules_7, e_X3_coveredRules_20, e_X3_coveredRules_21, L.f0, Option.bind_some, nI_leI, if_t]
theorem q_idleRules (L : Lst h r l) {d : Nat} : xc XP (d + 4) 35 [.ref r] h = some (some (.int (nI (ct (idlB l) l.length))), h) := by
  have h16 := L.1
  have hc := L.c
  rw [n_X3_idleRules]
  simp only [e_X3_idleRules_0, e_X3_idleRules_1, e_X3_idleRules_2, e_X3_idleRules_3]
  have key := loop_ct (fun j c => xe XP (d + 4) 35 (4, [.ref r, .int (nI c), .int (nI j)], [], h)) (idlB l) l.length (by
    intro j c hj hcj
    rw [e_X3_idleRules_4]
    simp (disch := first | assumption | omega) only [e_X3_idleRules_5, e_X3_idleRules_6, e_X3_idleRules_7, e_X3_idleRules_8, e_X3_idleRules_9, e_X3_idleRules_10, e_X3_idleRules_11, e_X3_idleRules_12, e_X3_idleRules_13, e_X3_idleRules_14, e_X3_idleRules_15, e_X3_idleRules_16, e_X3_idleRules_17, e_X3_idleRules_18, e_X3_idleRules_19, L.f0, Option.bind_some, q_isIdle L, xbk_i, bI_0, nI_leI, nI_add, if_f]
    cases idlB l j <;> simp) l.length (Nat.le_refl _)
  rw [key]
  simp (disch := first | assumption | omega) only [e_X3_idleRules_4, e_X3_idleRules_5, e_X3_idleRules_6, e_X3_idleRules_7, e_X3_idleRules_20, e_X3_idleRules_21, L.f0, Option.bind_some, nI_leI, if_t]
end LstR
/-- the list's cells, told exactly -/
def LsF (h : XH) (r n : Nat) (K H Hc Hv F L A : Nat → Int32) : Prop :=
  h[r]? = some (.inl (3, [.int (nI n), .ref (r + 1), .ref (r + 2), .ref (r + 3), .ref (r + 4), .ref (r + 5), .ref (r + 6), .ref (r + 7)])) ∧ h[r + 1]? = some (ia 16 K) ∧ h[r + 2]? = some (ia 16 H) ∧ h[r + 3]? = some (ia 16 Hc) ∧ h[r + 4]? = some (ia 16 Hv) ∧ h[r + 5]? = some (ia 16 F) ∧ h[r + 6]? = some (ia 16 L) ∧ h[r + 7]? = some (ia 16 A)
section LsFR
variable {h : XH} {r n : Nat} {K H Hc Hv F L A : Nat → Int32}
theorem LsF.c (T : LsF h r n K H Hc Hv F L A) : xcls h (.ref r) = some 3 := xcls_o T.1
theorem LsF.f0 (T : LsF h r n K H Hc Hv F L A) : xgf h r 3 0 = some (.int (nI n)) := xgf_o T.1 0
theorem LsF.f1 (T : LsF h r n K H Hc Hv F L A) : xgf h r 3 1 = some (.ref (r + 1)) := xgf_o T.1 1
theorem LsF.l1 (T : LsF h r n K H Hc Hv F L A) (k : Nat) (hk : k < 16) : xld h (r + 1) 0 (nI k) = some (K k) := xld_ia T.2.1 (by decide) hk
theorem LsF.s1 (T : LsF h r n K H Hc Hv F L A) (k : Nat) (hk : k < 16) (x : Int32) : xst h (r + 1) 0 (nI k) x = some (h.set (r + 1) (ia 16 (upd K k x))) := xst_ia T.2.1 (by decide) hk x
theorem LsF.w1 (T : LsF h r n K H Hc Hv F L A) (f : Nat → Int32) : LsF (h.set (r + 1) (ia 16 f)) r n f H Hc Hv F L A := ⟨by rw [get_ne _ (by omega)]; exact T.1, get_set T.2.1 _, by rw [get_ne _ (by omega)]; exact T.2.2.1, by rw [get_ne _ (by omega)]; exact T.2.2.2.1, by rw [get_ne _ (by omega)]; exact T.2.2.2.2.1, by rw [get_ne _ (by omega)]; exact T.2.2.2.2.2.1, by rw [get_ne _ (by omega)]; exact T.2.2.2.2.2.2.1, by rw [get_ne _ (by omega)]; exact T.2.2.2.2.2.2.2⟩
theorem LsF.f2 (T : LsF h r n K H Hc Hv F L A) : xgf h r 3 2 = some (.ref (r + 2)) := xgf_o T.1 2
theorem LsF.l2 (T : LsF h r n K H Hc Hv F L A) (k : Nat) (hk : k < 16) : xld h (r + 2) 0 (nI k) = some (H k) := xld_ia T.2.2.1 (by decide) hk
theorem LsF.s2 (T : LsF h r n K H Hc Hv F L A) (k : Nat) (hk : k < 16) (x : Int32) : xst h (r + 2) 0 (nI k) x = some (h.set (r + 2) (ia 16 (upd H k x))) := xst_ia T.2.2.1 (by decide) hk x
theorem LsF.w2 (T : LsF h r n K H Hc Hv F L A) (f : Nat → Int32) : LsF (h.set (r + 2) (ia 16 f)) r n K f Hc Hv F L A := ⟨by rw [get_ne _ (by omega)]; exact T.1, by rw [get_ne _ (by omega)]; exact T.2.1, get_set T.2.2.1 _, by rw [get_ne _ (by omega)]; exact T.2.2.2.1, by rw [get_ne _ (by omega)]; exact T.2.2.2.2.1, by rw [get_ne _ (by omega)]; exact T.2.2.2.2.2.1, by rw [get_ne _ (by omega)]; exact T.2.2.2.2.2.2.1, by rw [get_ne _ (by omega)]; exact T.2.2.2.2.2.2.2⟩
theorem LsF.f3 (T : LsF h r n K H Hc Hv F L A) : xgf h r 3 3 = some (.ref (r + 3)) := xgf_o T.1 3
theorem LsF.l3 (T : LsF h r n K H Hc Hv F L A) (k : Nat) (hk : k < 16) : xld h (r + 3) 0 (nI k) = some (Hc k) := xld_ia T.2.2.2.1 (by decide) hk
theorem LsF.s3 (T : LsF h r n K H Hc Hv F L A) (k : Nat) (hk : k < 16) (x : Int32) : xst h (r + 3) 0 (nI k) x = some (h.set (r + 3) (ia 16 (upd Hc k x))) := xst_ia T.2.2.2.1 (by decide) hk x
theorem LsF.w3 (T : LsF h r n K H Hc Hv F L A) (f : Nat → Int32) : LsF (h.set (r + 3) (ia 16 f)) r n K H f Hv F L A := ⟨by rw [get_ne _ (by omega)]; exact T.1, by rw [get_ne _ (by omega)]; exact T.2.1, by rw [get_ne _ (by omega)]; exact T.2.2.1, get_set T.2.2.2.1 _, by rw [get_ne _ (by omega)]; exact T.2.2.2.2.1, by rw [get_ne _ (by omega)]; exact T.2.2.2.2.2.1, by rw [get_ne _ (by omega)]; exact T.2.2.2.2.2.2.1, by rw [get_ne _ (by omega)]; exact T.2.2.2.2.2.2.2⟩
theorem LsF.f4 (T : LsF h r n K H Hc Hv F L A) : xgf h r 3 4 = some (.ref (r + 4)) := xgf_o T.1 4
theorem LsF.l4 (T : LsF h r n K H Hc Hv F L A) (k : Nat) (hk : k < 16) : xld h (r + 4) 0 (nI k) = some (Hv k) := xld_ia T.2.2.2.2.1 (by decide) hk
theorem LsF.s4 (T : LsF h r n K H Hc Hv F L A) (k : Nat) (hk : k < 16) (x : Int32) : xst h (r + 4) 0 (nI k) x = some (h.set (r + 4) (ia 16 (upd Hv k x))) := xst_ia T.2.2.2.2.1 (by decide) hk x
theorem LsF.w4 (T : LsF h r n K H Hc Hv F L A) (f : Nat → Int32) : LsF (h.set (r + 4) (ia 16 f)) r n K H Hc f F L A := ⟨by rw [get_ne _ (by omega)]; exact T.1, by rw [get_ne _ (by omega)]; exact T.2.1, by rw [get_ne _ (by omega)]; exact T.2.2.1, by rw [get_ne _ (by omega)]; exact T.2.2.2.1, get_set T.2.2.2.2.1 _, by rw [get_ne _ (by omega)]; exact T.2.2.2.2.2.1, by rw [get_ne _ (by omega)]; exact T.2.2.2.2.2.2.1, by rw [get_ne _ (by omega)]; exact T.2.2.2.2.2.2.2⟩
theorem LsF.f5 (T : LsF h r n K H Hc Hv F L A) : xgf h r 3 5 = some (.ref (r + 5)) := xgf_o T.1 5
theorem LsF.l5 (T : LsF h r n K H Hc Hv F L A) (k : Nat) (hk : k < 16) : xld h (r + 5) 0 (nI k) = some (F k) := xld_ia T.2.2.2.2.2.1 (by decide) hk
theorem LsF.s5 (T : LsF h r n K H Hc Hv F L A) (k : Nat) (hk : k < 16) (x : Int32) : xst h (r + 5) 0 (nI k) x = some (h.set (r + 5) (ia 16 (upd F k x))) := xst_ia T.2.2.2.2.2.1 (by decide) hk x
theorem LsF.w5 (T : LsF h r n K H Hc Hv F L A) (f : Nat → Int32) : LsF (h.set (r + 5) (ia 16 f)) r n K H Hc Hv f L A := ⟨by rw [get_ne _ (by omega)]; exact T.1, by rw [get_ne _ (by omega)]; exact T.2.1, by rw [get_ne _ (by omega)]; exact T.2.2.1, by rw [get_ne _ (by omega)]; exact T.2.2.2.1, by rw [get_ne _ (by omega)]; exact T.2.2.2.2.1, get_set T.2.2.2.2.2.1 _, by rw [get_ne _ (by omega)]; exact T.2.2.2.2.2.2.1, by rw [get_ne _ (by omega)]; exact T.2.2.2.2.2.2.2⟩
theorem LsF.f6 (T : LsF h r n K H Hc Hv F L A) : xgf h r 3 6 = some (.ref (r + 6)) := xgf_o T.1 6
theorem LsF.l6 (T : LsF h r n K H Hc Hv F L A) (k : Nat) (hk : k < 16) : xld h (r + 6) 0 (nI k) = some (L k) := xld_ia T.2.2.2.2.2.2.1 (by decide) hk
theorem LsF.s6 (T : LsF h r n K H Hc Hv F L A) (k : Nat) (hk : k < 16) (x : Int32) : xst h (r + 6) 0 (nI k) x = some (h.set (r + 6) (ia 16 (upd L k x))) := xst_ia T.2.2.2.2.2.2.1 (by decide) hk x
theorem LsF.w6 (T : LsF h r n K H Hc Hv F L A) (f : Nat → Int32) : LsF (h.set (r + 6) (ia 16 f)) r n K H Hc Hv F f A := ⟨by rw [get_ne _ (by omega)]; exact T.1, by rw [get_ne _ (by omega)]; exact T.2.1, by rw [get_ne _ (by omega)]; exact T.2.2.1, by rw [get_ne _ (by omega)]; exact T.2.2.2.1, by rw [get_ne _ (by omega)]; exact T.2.2.2.2.1, by rw [get_ne _ (by omega)]; exact T.2.2.2.2.2.1, get_set T.2.2.2.2.2.2.1 _, by rw [get_ne _ (by omega)]; exact T.2.2.2.2.2.2.2⟩
theorem LsF.f7 (T : LsF h r n K H Hc Hv F L A) : xgf h r 3 7 = some (.ref (r + 7)) := xgf_o T.1 7
theorem LsF.l7 (T : LsF h r n K H Hc Hv F L A) (k : Nat) (hk : k < 16) : xld h (r + 7) 0 (nI k) = some (A k) := xld_ia T.2.2.2.2.2.2.2 (by decide) hk
theorem LsF.s7 (T : LsF h r n K H Hc Hv F L A) (k : Nat) (hk : k < 16) (x : Int32) : xst h (r + 7) 0 (nI k) x = some (h.set (r + 7) (ia 16 (upd A k x))) := xst_ia T.2.2.2.2.2.2.2 (by decide) hk x
theorem LsF.w7 (T : LsF h r n K H Hc Hv F L A) (f : Nat → Int32) : LsF (h.set (r + 7) (ia 16 f)) r n K H Hc Hv F L f := ⟨by rw [get_ne _ (by omega)]; exact T.1, by rw [get_ne _ (by omega)]; exact T.2.1, by rw [get_ne _ (by omega)]; exact T.2.2.1, by rw [get_ne _ (by omega)]; exact T.2.2.2.1, by rw [get_ne _ (by omega)]; exact T.2.2.2.2.1, by rw [get_ne _ (by omega)]; exact T.2.2.2.2.2.1, by rw [get_ne _ (by omega)]; exact T.2.2.2.2.2.2.1, get_set T.2.2.2.2.2.2.2 _⟩
theorem LsF.s0 (T : LsF h r n K H Hc Hv F L A) (x : Int32) : xpf h r 3 0 (.int x) = some (h.set r (.inl (3, [.int x, .ref (r + 1), .ref (r + 2), .ref (r + 3), .ref (r + 4), .ref (r + 5), .ref (r + 6), .ref (r + 7)]))) := xpf_o T.1 (by simp) _
theorem LsF.w0 (T : LsF h r n K H Hc Hv F L A) (m : Nat) : LsF (h.set r (.inl (3, [.int (nI m), .ref (r + 1), .ref (r + 2), .ref (r + 3), .ref (r + 4), .ref (r + 5), .ref (r + 6), .ref (r + 7)]))) r m K H Hc Hv F L A := ⟨get_set T.1 _, by rw [get_ne _ (by omega)]; exact T.2.1, by rw [get_ne _ (by omega)]; exact T.2.2.1, by rw [get_ne _ (by omega)]; exact T.2.2.2.1, by rw [get_ne _ (by omega)]; exact T.2.2.2.2.1, by rw [get_ne _ (by omega)]; exact T.2.2.2.2.2.1, by rw [get_ne _ (by omega)]; exact T.2.2.2.2.2.2.1, by rw [get_ne _ (by omega)]; exact T.2.2.2.2.2.2.2⟩
theorem LsF.same {h' : XH} (T : LsF h r n K H Hc Hv F L A) {lo hi : Nat} (s : Same h h' lo hi) (hd : r + 8 ≤ lo ∨ hi ≤ r) : LsF h' r n K H Hc Hv F L A := ⟨by rw [s.2 _ (by omega)]; exact T.1, by rw [s.2 _ (by omega)]; exact T.2.1, by rw [s.2 _ (by omega)]; exact T.2.2.1, by rw [s.2 _ (by omega)]; exact T.2.2.2.1, by rw [s.2 _ (by omega)]; exact T.2.2.2.2.1, by rw [s.2 _ (by omega)]; exact T.2.2.2.2.2.1, by rw [s.2 _ (by omega)]; exact T.2.2.2.2.2.2.1, by rw [s.2 _ (by omega)]; exact T.2.2.2.2.2.2.2⟩
end LsFR
theorem Lst.cells {h : XH} {r : Nat} {l : List Rl} (L : Lst h r l) : ∃ K H Hc Hv F La A, LsF h r l.length K H Hc Hv F La A ∧ ∀ j, j < l.length → K j = nI (rlN l j).1 ∧ H j = nI (rlN l j).2.1 ∧ Hc j = nI (hcN (rlN l j).2.1) ∧ Hv j = nI (hvN (rlN l j).2.1) ∧ F j = nI (rlN l j).2.2.1 ∧ La j = nI (rlN l j).2.2.2.1 ∧ A j = nI (rlN l j).2.2.2.2 := by
  obtain ⟨h16, hv, e0, K, H, Hc, Hv, F, La, A, e1, e2, e3, e4, e5, e6, e7, hj⟩ := L
  exact ⟨K, H, Hc, Hv, F, La, A, ⟨e0, e1, e2, e3, e4, e5, e6, e7⟩, hj⟩
theorem LsF.lst {h : XH} {r : Nat} {l : List Rl} {K H Hc Hv F La A : Nat → Int32} (T : LsF h r l.length K H Hc Hv F La A) (h16 : l.length ≤ 16) (hv : ∀ q ∈ l, vr q) (hj : ∀ j, j < l.length → K j = nI (rlN l j).1 ∧ H j = nI (rlN l j).2.1 ∧ Hc j = nI (hcN (rlN l j).2.1) ∧ Hv j = nI (hvN (rlN l j).2.1) ∧ F j = nI (rlN l j).2.2.1 ∧ La j = nI (rlN l j).2.2.2.1 ∧ A j = nI (rlN l j).2.2.2.2) : Lst h r l :=
  ⟨h16, hv, T.1, K, H, Hc, Hv, F, La, A, T.2.1, T.2.2.1, T.2.2.2.1, T.2.2.2.2.1, T.2.2.2.2.2.1, T.2.2.2.2.2.2.1, T.2.2.2.2.2.2.2, hj⟩
