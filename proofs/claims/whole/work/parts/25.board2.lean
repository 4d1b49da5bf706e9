/-! A BOARD's methods, in the words of rules and slots -/
def dst (l : List Rl) : Prop := ∀ i j, i < l.length → j < l.length → (rlN l i).1 = (rlN l j).1 → i = j
theorem nofR_of {l : List Rl} (hd : dst l) {r : Nat} (hr : r < l.length) : nofR l (rlN l r).1 = some r := by
  unfold nofR
  refine fup_some.mpr ⟨Nat.zero_le _, by omega, by simp, fun j _ hj => ?_⟩
  simp
  intro e
  have := hd j r (by omega) hr e
  omega
theorem nofR_some {l : List Rl} {k r : Nat} (h : nofR l k = some r) : r < l.length ∧ (rlN l r).1 = k := by
  have := fup_some.mp h
  exact ⟨by omega, by simpa using this.2.2.1⟩
theorem slIs_emp {l : List Rl} {R P C V : Nat → Int32} {s : Nat} {o : Option (Nat × Nat)} (hv : ∀ q ∈ l, vr q) (h : slIs l R P C V s o) : emp R s = o.isNone := by
  unfold emp
  cases o with
  | none => simp; exact h
  | some x =>
    have := (hv _ (rlN_mem h.1)).1
    simp only [Option.isNone_some, decide_eq_false_iff_not]
    rw [h.2.2.1]
    exact nI_n4 (by omega)
/-- a row fits a key -/
def fitX (l : List Rl) (x : Nat × Nat) (k : Nat) : Bool := decide ((k ^^^ rwV (rlN l x.1) x.2) &&& rwC (rlN l x.1) x.2 = 0)
def fitS (l : List Rl) (σ : Sl) (k s : Nat) : Bool := match σ s with
  | none => false
  | some x => fitX l x k
/-- the slot by which the table answers -/
def tS (l : List Rl) (σ : Sl) (k : Nat) : Option Nat := fup (fitS l σ k) 0 16
theorem rwC_lt (q : Rl) (p : Nat) : rwC q p < 128 := cwT_lt _ _
theorem rwV_lt (q : Rl) (p : Nat) : rwV q p < 128 := vwT_lt _ _
theorem fts_eq {l : List Rl} {R P C V : Nat → Int32} {σ : Sl} {k s : Nat} (hv : ∀ q ∈ l, vr q) (h : slIs l R P C V s (σ s)) : fts R C V (nI k) s = fitS l σ k s := by
  unfold fts fitS
  rw [slIs_emp hv h]
  cases hx : σ s with
  | none => simp
  | some x =>
    rw [hx] at h
    simp only [Option.isNone_some, Bool.not_false, Bool.true_and]
    unfold fitX
    have e1 := h.2.2.2.2.1
    have e2 := h.2.2.2.2.2
    rw [e1, e2, nx_xor, nx_and]
    congr 1
    exact propext (nI_eq (Nat.lt_of_le_of_lt Nat.and_le_right (by have := rwC_lt (rlN l x.1) x.2; omega)) (by decide))
theorem ansS_eq {l : List Rl} {R P C V : Nat → Int32} {σ : Sl} {k : Nat} (hv : ∀ q ∈ l, vr q) (h : ∀ s, s < 16 → slIs l R P C V s (σ s)) : ansS R C V (nI k) = tS l σ k :=
  fup_congr (fun s _ hs => fts_eq hv (h s (by omega)))
theorem tS_lt {l : List Rl} {σ : Sl} {k s : Nat} (h : tS l σ k = some s) : s < 16 := by have := (fup_some.mp h).2.1; omega
/-- the rule of a slot, if there is one -/
def rAt (σ : Sl) (o : Option Nat) : Option Nat := o.bind fun s => (σ s).map fun x => x.1
section BrdR
variable {h : XH} {b : Nat} {l : List Rl} {σ : Sl}
theorem q_ruleOf (B : Brd h b l σ) (hd : dst l) {d : Nat} {o : Option Nat} (ho : ∀ s, o = some s → s < 16) : xc XP (d + 1) 6 [.ref b, .int (oI o)] h = some (some (.int (oI (rAt σ o))), h) := by
  obtain ⟨R, P, C, V, B, hs⟩ := B
  have c1 := B.T.c
  have c2 := B.L.c
  rw [n_X0_ruleOf]
  cases o with
  | none =>
    simp (disch := first | assumption | omega) only [e_X0_ruleOf_0, e_X0_ruleOf_1, e_X0_ruleOf_2, e_X0_ruleOf_3, e_X0_ruleOf_4, e_X0_ruleOf_5, e_X0_ruleOf_6, e_X0_ruleOf_7, e_X0_ruleOf_8, e_X0_ruleOf_9, e_X0_ruleOf_10, e_X0_ruleOf_11, e_X0_ruleOf_12, e_X0_ruleOf_13, e_X0_ruleOf_14, e_X0_ruleOf_15, e_X0_ruleOf_16, e_X0_ruleOf_17, e_X0_ruleOf_18, q_isSlot, xbk_i, bI_0, oI_none, show (decide (¬ (-4 : Int32) < nI 0) && decide ((-4 : Int32) < nI 16)) = false by decide, if_true]
    rfl
  | some s =>
    have hs16 := ho s rfl
    have hsl := hs s hs16
    have he := slIs_emp B.L.2.1 hsl
    have hi := isS_nI hs16
    simp (disch := first | assumption | omega) only [e_X0_ruleOf_0, e_X0_ruleOf_1, e_X0_ruleOf_2, e_X0_ruleOf_3, e_X0_ruleOf_4, e_X0_ruleOf_5, e_X0_ruleOf_6, e_X0_ruleOf_7, e_X0_ruleOf_8, e_X0_ruleOf_9, e_X0_ruleOf_10, e_X0_ruleOf_11, e_X0_ruleOf_12, e_X0_ruleOf_13, e_X0_ruleOf_14, e_X0_ruleOf_15, e_X0_ruleOf_16, e_X0_ruleOf_17, e_X0_ruleOf_18, q_isSlot, q_isEmpty B.T, xbk_i, bI_0, oI_some, hi, B.f0, B.f1, B.T.f0, B.T.lR, Option.bind_some, he]
    unfold rAt
    cases hx : σ s with
    | none => simp [hx, oI]
    | some x =>
      rw [hx] at hsl
      have hv := (B.L.v hsl.1).1
      have e1 : R s = nI (rlN l x.1).1 := hsl.2.2.1
      rw [e1, q_numberOf B.L (by omega), nofR_of hd hsl.1]
      simp [hx, xbk_i, e_X0_ruleOf_16, e_X0_ruleOf_18]
theorem rAt_lt (B : Brd h b l σ) {o : Option Nat} (ho : ∀ s, o = some s → s < 16) {r : Nat} (hr : rAt σ o = some r) : r < l.length := by
  obtain ⟨R, P, C, V, B, hs⟩ := B
  unfold rAt at hr
  cases o with
  | none => simp at hr
  | some s =>
    have hsl := hs s (ho s rfl)
    cases hx : σ s with
    | none => simp [hx] at hr
    | some x =>
      rw [hx] at hsl
      simp [hx] at hr
      rw [← hr]
      exact hsl.1
theorem q_answerOfB (B : Brd h b l σ) (hd : dst l) {d : Nat} {o : Option Nat} (ho : ∀ s, o = some s → s < 16) : xc XP (d + 2) 7 [.ref b, .int (oI o)] h = some (some (.int (ansR l (rAt σ o))), h) := by
  have q1 := q_ruleOf B hd (d := d) ho
  obtain ⟨R, P, C, V, B', hs⟩ := id B
  have q2 := q_answerOfR B'.L (d := d + 1) (o := rAt σ o) (fun r hr => rAt_lt B ho hr)
  have c1 := B'.L.c
  have c2 := B'.c
  rw [n_X0_answerOf]
  simp (disch := first | assumption | omega) only [e_X0_answerOf_0, e_X0_answerOf_1, e_X0_answerOf_2, e_X0_answerOf_3, e_X0_answerOf_4, e_X0_answerOf_5, e_X0_answerOf_6, B'.f0, Option.bind_some, q1, q2, xbk_i]
theorem q_answeringSlotB (B : Brd h b l σ) {d k : Nat} : xc XP (d + 2) 65 [.ref (b + 9), .int (nI k)] h = some (some (.int (oI (tS l σ k))), h) := by
  obtain ⟨R, P, C, V, B, hs⟩ := B
  rw [q_answeringSlot B.T, ansS_eq B.L.2.1 hs]
theorem q_keysWithoutAnswer (B : Brd h b l σ) {d : Nat} : xc XP (d + 3) 8 [.ref b] h = some (some (.int (nI (ct (fun k => (tS l σ k).isNone) 128))), h) := by
  obtain ⟨R, P, C, V, B', hs⟩ := id B
  have c1 := B'.T.c
  rw [n_X0_keysWithoutAnswer]
  simp only [e_X0_keysWithoutAnswer_0, e_X0_keysWithoutAnswer_1, e_X0_keysWithoutAnswer_2, e_X0_keysWithoutAnswer_3]
  have key := loop_ct (fun k c => xe XP (d + 3) 8 (4, [.ref b, .int (nI c), .int (nI k)], [], h)) (fun k => (tS l σ k).isNone) 128 (by
    intro k c hk hck
    rw [e_X0_keysWithoutAnswer_4]
    simp (disch := first | assumption | omega) only [e_X0_keysWithoutAnswer_5, e_X0_keysWithoutAnswer_6, e_X0_keysWithoutAnswer_7, e_X0_keysWithoutAnswer_8, e_X0_keysWithoutAnswer_9, e_X0_keysWithoutAnswer_10, e_X0_keysWithoutAnswer_11, e_X0_keysWithoutAnswer_12, e_X0_keysWithoutAnswer_13, e_X0_keysWithoutAnswer_14, e_X0_keysWithoutAnswer_15, e_X0_keysWithoutAnswer_16, e_X0_keysWithoutAnswer_17, e_X0_keysWithoutAnswer_18, e_X0_keysWithoutAnswer_19, B'.f1, Option.bind_some, q_answeringSlotB B, xbk_i, nI_leI, nI_add, if_f]
    cases hx : tS l σ k with
    | none => simp [oI, m4_ge0]
    | some s =>
      have := tS_lt hx
      simp [oI, nI_ge0 (show s < 2 ^ 31 by omega)]) 128 (Nat.le_refl _)
  rw [key]
  simp (disch := first | assumption | omega) only [e_X0_keysWithoutAnswer_4, e_X0_keysWithoutAnswer_5, e_X0_keysWithoutAnswer_6, e_X0_keysWithoutAnswer_20, e_X0_keysWithoutAnswer_21, nI_leI, if_t]
theorem oI_inj {a b : Option Nat} (ha : ∀ j, a = some j → j < 2 ^ 31) (hb : ∀ j, b = some j → j < 2 ^ 31) : (oI a = oI b) = (a = b) := by
  cases b with
  | some j => exact oI_eq ha (hb j rfl)
  | none =>
    cases a with
    | none => simp
    | some i => simp [oI, nI_n4 (ha i rfl)]
theorem q_keysAnsweredOtherwise (B : Brd h b l σ) (hd : dst l) {d : Nat} : xc XP (d + 3) 9 [.ref b] h = some (some (.int (nI (ct (fun k => !decide (rAt σ (tS l σ k) = lsB l none k)) 128))), h) := by
  obtain ⟨R, P, C, V, B', hs⟩ := id B
  have c1 := B'.T.c
  have c2 := B'.L.c
  have c3 := B'.c
  have h16 := B'.L.1
  rw [n_X0_keysAnsweredOtherwise]
  simp only [e_X0_keysAnsweredOtherwise_0, e_X0_keysAnsweredOtherwise_1, e_X0_keysAnsweredOtherwise_2, e_X0_keysAnsweredOtherwise_3]
  have key := loop_ct (fun k c => xe XP (d + 3) 9 (4, [.ref b, .int (nI c), .int (nI k)], [], h)) (fun k => !decide (rAt σ (tS l σ k) = lsB l none k)) 128 (by
    intro k c hk hck
    have q1 := q_ruleOf B hd (d := d + 1) (o := tS l σ k) (fun s hs => tS_lt hs)
    have q2 := q_answeringRule B'.L (d := d) hk
    have ho : (oI (rAt σ (tS l σ k)) = oI (lsB l none k)) = (rAt σ (tS l σ k) = lsB l none k) := oI_inj (fun j hj => by have := rAt_lt B (fun s hs => tS_lt hs) hj; omega) (fun j hj => by have := lsB_len hj; omega)
    rw [e_X0_keysAnsweredOtherwise_4]
    simp (disch := first | assumption | omega) only [e_X0_keysAnsweredOtherwise_5, e_X0_keysAnsweredOtherwise_6, e_X0_keysAnsweredOtherwise_7, e_X0_keysAnsweredOtherwise_8, e_X0_keysAnsweredOtherwise_9, e_X0_keysAnsweredOtherwise_10, e_X0_keysAnsweredOtherwise_11, e_X0_keysAnsweredOtherwise_12, e_X0_keysAnsweredOtherwise_13, e_X0_keysAnsweredOtherwise_14, e_X0_keysAnsweredOtherwise_15, e_X0_keysAnsweredOtherwise_16, e_X0_keysAnsweredOtherwise_17, e_X0_keysAnsweredOtherwise_18, e_X0_keysAnsweredOtherwise_19, e_X0_keysAnsweredOtherwise_20, e_X0_keysAnsweredOtherwise_21, e_X0_keysAnsweredOtherwise_22, e_X0_keysAnsweredOtherwise_23, e_X0_keysAnsweredOtherwise_24, e_X0_keysAnsweredOtherwise_25, B'.f0, B'.f1, Option.bind_some, q_answeringSlotB B, q1, q2, ho, xbk_i, nI_leI, nI_add, if_f]
    by_cases g : rAt σ (tS l σ k) = lsB l none k <;> simp [g]) 128 (Nat.le_refl _)
  rw [key]
  simp (disch := first | assumption | omega) only [e_X0_keysAnsweredOtherwise_4, e_X0_keysAnsweredOtherwise_5, e_X0_keysAnsweredOtherwise_6, e_X0_keysAnsweredOtherwise_26, e_X0_keysAnsweredOtherwise_27, nI_leI, if_t]
/-- a rule goes: the slots then -/
def slDel (σ : Sl) (r : Nat) : Sl := fun s => match σ s with
  | none => none
  | some x => if x.1 = r then none else some (if r < x.1 then x.1 - 1 else x.1, x.2)
theorem q_removeRule (B : Brd h b l σ) (hd : dst l) {d r : Nat} (hr : r < l.length) : ∃ h', xc XP (d + 2) 2 [.ref b, .int (nI r)] h = some (none, h') ∧ Brd h' b (l.eraseIdx r) (slDel σ r) ∧ Same h h' b (b + 14) := by
  obtain ⟨R, P, C, V, B, hs⟩ := B
  have h16 := B.L.1
  have hvr := (B.L.v hr).1
  obtain ⟨h1, R1, e1, hR1, T1, s1⟩ := q_clearRank B.T (d := d) (x := nI (rlN l r).1)
  have B1 := B.setT T1 (s1.weak (by omega) (by omega))
  obtain ⟨h2, e2, L2, s2⟩ := q_removeR B1.L (d := d + 1) hr
  have B2 := B1.setL L2 (s2.weak (by omega) (by omega))
  refine ⟨h2, ?_, ⟨_, _, _, _, B2, fun s hs16 => ?_⟩, (s1.weak (by omega) (by omega)).trans (s2.weak (by omega) (by omega))⟩
  · have c1 := B.T.c
    have c2 := B1.L.c
    rw [n_X0_removeRule]
    simp (disch := first | assumption | omega) only [e_X0_removeRule_0, e_X0_removeRule_1, e_X0_removeRule_2, e_X0_removeRule_3, e_X0_removeRule_4, e_X0_removeRule_5, e_X0_removeRule_6, e_X0_removeRule_7, e_X0_removeRule_8, e_X0_removeRule_9, e_X0_removeRule_10, e_X0_removeRule_11, e_X0_removeRule_12, e_X0_removeRule_13, e_X0_removeRule_14, e_X0_removeRule_15, e_X0_removeRule_16, e_X0_removeRule_17, e_X0_removeRule_18, e_X0_removeRule_19, e_X0_removeRule_20, B.f0, B.f1, B1.f0, B.L.f0, B.L.f1, B.L.lK, Option.bind_some, nI_lt0, nI_ltI, if_f, if_t, e1, e2, xbk_v]
  · have hsl := hs s hs16
    have hR := hR1 s (by omega)
    unfold slDel
    cases hx : σ s with
    | none =>
      rw [hx] at hsl
      have hsl : R s = -4 := hsl
      show R1 s = -4
      rw [hR, hsl]
      split <;> rfl
    | some x =>
      rw [hx] at hsl
      obtain ⟨g1, g2, g3, g4, g5, g6⟩ := hsl
      have hvx := (B.L.v g1).1
      have hlen : (l.eraseIdx r).length = l.length - 1 := by rw [List.length_eraseIdx]; simp [hr]
      by_cases hxr : x.1 = r
      · simp only [hxr, if_true]
        show R1 s = -4
        rw [hR, g3, hxr]
        simp [hs16]
      · simp only [hxr, if_false]
        have hne : ¬ (rlN l x.1).1 = (rlN l r).1 := fun e => hxr (hd _ _ g1 hr e)
        have hRs : R1 s = R s := by
          rw [hR, if_neg]
          intro q
          rw [g3] at q
          exact hne ((nI_eq (by omega) (by omega)).mp q.2)
        have hq : rlN (l.eraseIdx r) (if r < x.1 then x.1 - 1 else x.1) = rlN l x.1 := by
          rw [rlN_del]
          by_cases hlt : r < x.1
          · rw [if_pos hlt, if_neg (by omega), show x.1 - 1 + 1 = x.1 by omega]
          · rw [if_neg hlt, if_pos (by omega)]
        refine ⟨?_, ?_, ?_, g4, ?_, ?_⟩
        · rw [hlen]
          dsimp only
          split <;> omega
        · dsimp only; rw [hq]; exact g2
        · dsimp only; rw [hq, hRs]; exact g3
        · dsimp only; rw [hq]; exact g5
        · dsimp only; rw [hq]; exact g6
end BrdR
