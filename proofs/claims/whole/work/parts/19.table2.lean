/-! THE TABLE's reads, continued -/
section TabR2
variable {h : XH} {t : Nat} {R P C V : Nat → Int32}
theorem q_rowsBetween (T : Tab h t R P C V) {d a b : Nat} (ha : a ≤ 17) (hb : b ≤ 17) : xc XP (d + 1) 62 [.ref t, .int (nI a + (-1)), .int (nI b + (-1))] h = some (some (.int (nI (ct (fun s => decide (min a b ≤ s) && !emp R s) (max a b - 1)))), h) := by
  rw [n_X5_rowsBetween]
  have hc := T.c
  simp (disch := first | assumption | omega) only [e_X5_rowsBetween_0, e_X5_rowsBetween_1, e_X5_rowsBetween_2, e_X5_rowsBetween_3, e_X5_rowsBetween_4, e_X5_rowsBetween_5, e_X5_rowsBetween_6, e_X5_rowsBetween_7, e_X5_rowsBetween_8, e_X5_rowsBetween_9, e_X5_rowsBetween_10, e_X5_rowsBetween_11, e_X5_rowsBetween_12, e_X5_rowsBetween_13, e_X5_rowsBetween_14, e_X5_rowsBetween_15, q_max, q_min, xbk_i]
  have e1 : (if nI a + (-1) < nI b + (-1) then nI b + (-1) else nI a + (-1)) = nI (max a b) + (-1) := by
    by_cases hab : a < b
    · rw [if_pos (Int32.not_le.mp (by rw [nI_m1lem1 (by omega) (by omega)]; omega)), Nat.max_eq_right (by omega)]
    · rw [if_neg (Int32.not_lt.mpr (by rw [nI_m1lem1 (by omega) (by omega)]; omega)), Nat.max_eq_left (by omega)]
  have e2 : (if nI 16 < nI (max a b) + (-1) then nI 16 else nI (max a b) + (-1)) = nI (max a b) + (-1) := by
    rw [if_neg (Int32.not_lt.mpr (by rw [nI_m1le (by omega) (by omega)]; omega))]
  have e3 : (if nI b + (-1) < nI a + (-1) then nI b + (-1) else nI a + (-1)) + nI 1 = nI (min a b) := by
    by_cases hab : b < a
    · rw [if_pos (Int32.not_le.mp (by rw [nI_m1lem1 (by omega) (by omega)]; omega)), Nat.min_eq_right (by omega), nI_m1p1]
    · rw [if_neg (Int32.not_lt.mpr (by rw [nI_m1lem1 (by omega) (by omega)]; omega)), Nat.min_eq_left (by omega), nI_m1p1]
  have e4 : (if nI (min a b) < nI 0 then nI 0 else nI (min a b)) = nI (min a b) := by
    rw [if_neg (nI_lt0 (by omega))]
  simp only [e1, e2, e3, e4]
  generalize hlo : min a b = lo at *
  generalize hhi : max a b = hi at *
  have hlh : lo ≤ hi := by omega
  have hh17 : hi ≤ 17 := by omega
  by_cases hlt : lo ≤ hi - 1
  · have key := loop_ctr (fun k c => xe XP (d + 1) 62 (16, [.ref t, .int (nI a + (-1)), .int (nI b + (-1)), .int (nI hi + (-1)), .int (nI c), .int (nI k)], [], h)) (fun s => !emp R s) lo (hi - 1) (by
      intro j c hj1 hj hc2
      rw [e_X5_rowsBetween_16]
      simp (disch := first | assumption | omega) only [e_X5_rowsBetween_17, e_X5_rowsBetween_18, e_X5_rowsBetween_19, e_X5_rowsBetween_20, e_X5_rowsBetween_21, e_X5_rowsBetween_22, e_X5_rowsBetween_23, e_X5_rowsBetween_24, e_X5_rowsBetween_25, e_X5_rowsBetween_26, e_X5_rowsBetween_27, e_X5_rowsBetween_28, e_X5_rowsBetween_29, e_X5_rowsBetween_30, q_isEmpty T, xbk_i, bI_0, nI_m1le, nI_add, if_f]
      cases emp R j <;> simp) (hi - 1 - lo) (by omega)
    rw [key, show lo + (hi - 1 - lo) = hi - 1 by omega]
    simp (disch := omega) only [e_X5_rowsBetween_16, e_X5_rowsBetween_17, e_X5_rowsBetween_18, e_X5_rowsBetween_31, e_X5_rowsBetween_32, nI_m1le, if_t]
  · have hn : ct (fun s => decide (lo ≤ s) && !emp R s) (hi - 1) = 0 := by
      have : ∀ m, m ≤ hi - 1 → ct (fun s => decide (lo ≤ s) && !emp R s) m = 0 := by
        intro m
        induction m with
        | zero => intro _; rfl
        | succ m ih =>
          intro hm
          unfold ct
          rw [ih (by omega)]
          simp
          intro q
          omega
      exact this _ (Nat.le_refl _)
    rw [hn]
    simp (disch := omega) only [e_X5_rowsBetween_16, e_X5_rowsBetween_17, e_X5_rowsBetween_18, e_X5_rowsBetween_31, e_X5_rowsBetween_32, nI_m1le, if_t]
theorem q_rows (T : Tab h t R P C V) {d : Nat} : xc XP (d + 2) 61 [.ref t] h = some (some (.int (nI (ct (fun s => !emp R s) 16))), h) := by
  rw [n_X5_rows]
  have hc := T.c
  have q := q_rowsBetween T (d := d) (a := 0) (b := 17) (by omega) (by omega)
  simp only [show nI 0 + (-1) = (-1 : Int32) from rfl, show nI 17 + (-1) = nI 16 from rfl] at q
  simp (disch := first | assumption | omega) only [e_X5_rows_0, e_X5_rows_1, e_X5_rows_2, e_X5_rows_3, e_X5_rows_4, q, xbk_i]
  rw [show ct (fun s => decide (min 0 17 ≤ s) && !emp R s) (max 0 17 - 1) = ct (fun s => !emp R s) 16 from ct_congr (fun j _ => by simp)]
def dif (R P R' P' : Nat → Int32) (s : Nat) : Bool := !emp R s && !(decide (R s = R' s) && decide (P s = P' s))
theorem q_rowsNotAsIn {t2 : Nat} {R2 P2 C2 V2 : Nat → Int32} (T : Tab h t R P C V) (T2 : Tab h t2 R2 P2 C2 V2) {d : Nat} : xc XP (d + 1) 63 [.ref t, .ref t2] h = some (some (.int (nI (ct (dif R P R2 P2) 16))), h) := by
  rw [n_X5_rowsNotAsIn]
  have hc := T.c
  have hc2 := T2.c
  simp (disch := first | assumption | omega) only [e_X5_rowsNotAsIn_0, e_X5_rowsNotAsIn_1, e_X5_rowsNotAsIn_2, e_X5_rowsNotAsIn_3]
  have dead : ∀ (j c : Nat) (v : Int32), j ≤ 16 → xe XP (d + 1) 63 (4, [.ref t, .ref t2, .int (nI c), .int (nI j), .int v], [], h) = xe XP (d + 1) 63 (4, [.ref t, .ref t2, .int (nI c), .int (nI j), .null], [], h) := by
    intro j c v hj
    rw [e_X5_rowsNotAsIn_4 (a4 := .int v), e_X5_rowsNotAsIn_4 (a4 := .null)]
    by_cases hj2 : j < 16
    · simp (disch := first | assumption | omega) only [e_X5_rowsNotAsIn_5, e_X5_rowsNotAsIn_6, e_X5_rowsNotAsIn_7, e_X5_rowsNotAsIn_8, e_X5_rowsNotAsIn_9, e_X5_rowsNotAsIn_10, e_X5_rowsNotAsIn_11, e_X5_rowsNotAsIn_12, e_X5_rowsNotAsIn_13, e_X5_rowsNotAsIn_14, e_X5_rowsNotAsIn_15, e_X5_rowsNotAsIn_16, e_X5_rowsNotAsIn_17, e_X5_rowsNotAsIn_18, e_X5_rowsNotAsIn_19, e_X5_rowsNotAsIn_20, e_X5_rowsNotAsIn_21, e_X5_rowsNotAsIn_22, e_X5_rowsNotAsIn_23, e_X5_rowsNotAsIn_24, e_X5_rowsNotAsIn_25, e_X5_rowsNotAsIn_26, e_X5_rowsNotAsIn_27, e_X5_rowsNotAsIn_28, e_X5_rowsNotAsIn_29, e_X5_rowsNotAsIn_30, e_X5_rowsNotAsIn_31, e_X5_rowsNotAsIn_32, e_X5_rowsNotAsIn_33, e_X5_rowsNotAsIn_34, e_X5_rowsNotAsIn_35, e_X5_rowsNotAsIn_36, e_X5_rowsNotAsIn_37, e_X5_rowsNotAsIn_38, e_X5_rowsNotAsIn_39, e_X5_rowsNotAsIn_40, e_X5_rowsNotAsIn_41, e_X5_rowsNotAsIn_42, T.f0, T.f1, T2.f0, T2.f1, T.lR, T.lP, T2.lR, T2.lP, Option.bind_some, q_isEmpty T, xbk_i, bI_0, nI_leI, nI_add, if_f]
    · simp (disch := first | assumption | omega) only [e_X5_rowsNotAsIn_5, e_X5_rowsNotAsIn_6, e_X5_rowsNotAsIn_43, e_X5_rowsNotAsIn_44, nI_leI, if_t]
  have key := loop_ct (fun k c => xe XP (d + 1) 63 (4, [.ref t, .ref t2, .int (nI c), .int (nI k), .null], [], h)) (dif R P R2 P2) 16 (by
    intro j c hj hcj
    rw [e_X5_rowsNotAsIn_4]
    simp (disch := first | assumption | omega) only [e_X5_rowsNotAsIn_5, e_X5_rowsNotAsIn_6, e_X5_rowsNotAsIn_7, e_X5_rowsNotAsIn_8, e_X5_rowsNotAsIn_9, e_X5_rowsNotAsIn_10, e_X5_rowsNotAsIn_11, e_X5_rowsNotAsIn_12, e_X5_rowsNotAsIn_13, e_X5_rowsNotAsIn_14, e_X5_rowsNotAsIn_15, e_X5_rowsNotAsIn_16, e_X5_rowsNotAsIn_17, e_X5_rowsNotAsIn_18, e_X5_rowsNotAsIn_19, e_X5_rowsNotAsIn_20, e_X5_rowsNotAsIn_21, e_X5_rowsNotAsIn_22, e_X5_rowsNotAsIn_23, e_X5_rowsNotAsIn_24, e_X5_rowsNotAsIn_25, e_X5_rowsNotAsIn_26, e_X5_rowsNotAsIn_27, e_X5_rowsNotAsIn_28, e_X5_rowsNotAsIn_29, e_X5_rowsNotAsIn_30, e_X5_rowsNotAsIn_31, e_X5_rowsNotAsIn_32, e_X5_rowsNotAsIn_33, e_X5_rowsNotAsIn_34, e_X5_rowsNotAsIn_35, e_X5_rowsNotAsIn_36, e_X5_rowsNotAsIn_37, e_X5_rowsNotAsIn_38, e_X5_rowsNotAsIn_39, e_X5_rowsNotAsIn_40, e_X5_rowsNotAsIn_41, e_X5_rowsNotAsIn_42, T.f0, T.f1, T2.f0, T2.f1, T.lR, T.lP, T2.lR, T2.lP, Option.bind_some, q_isEmpty T, xbk_i, bI_0, nI_leI, nI_add, nI_eq, if_f, dead]
    unfold dif
    by_cases g1 : R j = R2 j <;> by_cases g2 : P j = P2 j <;> cases emp R j <;> simp [g1, g2]) 16 (Nat.le_refl _)
  rw [key]
  simp (disch := omega) only [e_X5_rowsNotAsIn_4, e_X5_rowsNotAsIn_5, e_X5_rowsNotAsIn_6, e_X5_rowsNotAsIn_43, e_X5_rowsNotAsIn_44, nI_leI, if_t]
/-- a sign of a row, told by its bit -/
def sgn (C V : Nat → Int32) (s : Nat) (b : Int32) : Int32 := if C s &&& b = nI 0 then nI 2 else if V s &&& b = nI 0 then nI 0 else nI 1
theorem q_signsOf (T : Tab h t R P C V) {d s : Nat} (hs : s < 17) : xc XP d 64 [.ref t, .int (nI s)] h = some (some (.int (((((((nI 0 * nI 10 + sgn C V s (nI 64)) * nI 10 + sgn C V s (nI 32)) * nI 10 + sgn C V s (nI 16)) * nI 10 + sgn C V s (nI 8)) * nI 10 + sgn C V s (nI 4)) * nI 10 + sgn C V s (nI 2)) * nI 10 + sgn C V s (nI 1))), h) := by
  rw [n_X5_signsOf]
  simp (disch := omega) only [e_X5_signsOf_0, e_X5_signsOf_1, e_X5_signsOf_2, e_X5_signsOf_3]
  have step : ∀ (acc b : Int32) (x : Value), ¬ b ≤ nI 0 → ∃ y : Value, xe XP d 64 (4, [.ref t, .int (nI s), .int acc, .int b, x], [], h) = xe XP d 64 (4, [.ref t, .int (nI s), .int (acc * nI 10 + sgn C V s b), .int (j_div b (nI 2)), y], [], h) := by
    intro acc b x hb
    rw [e_X5_signsOf_4]
    simp (disch := first | assumption | omega) only [e_X5_signsOf_5, e_X5_signsOf_6, e_X5_signsOf_7, e_X5_signsOf_8, e_X5_signsOf_9, e_X5_signsOf_10, e_X5_signsOf_11, e_X5_signsOf_12, e_X5_signsOf_13, e_X5_signsOf_14, e_X5_signsOf_15, e_X5_signsOf_16, e_X5_signsOf_17, e_X5_signsOf_18, e_X5_signsOf_19, e_X5_signsOf_20, e_X5_signsOf_21, e_X5_signsOf_22, e_X5_signsOf_23, e_X5_signsOf_24, e_X5_signsOf_25, e_X5_signsOf_26, e_X5_signsOf_27, e_X5_signsOf_28, e_X5_signsOf_29, e_X5_signsOf_30, e_X5_signsOf_31, e_X5_signsOf_32, e_X5_signsOf_33, e_X5_signsOf_34, e_X5_signsOf_35, e_X5_signsOf_36, T.f2, T.f3, T.lC, T.lV, Option.bind_some, if_f]
    unfold sgn
    by_cases g1 : C s &&& b = nI 0 <;> by_cases g2 : V s &&& b = nI 0 <;> simp [g1, g2] <;> exact ⟨_, rfl⟩
  obtain ⟨x1, h1⟩ := step (nI 0) (nI 64) .null (by decide)
  obtain ⟨x2, h2⟩ := step (nI 0 * nI 10 + sgn C V s (nI 64)) (nI 32) x1 (by decide)
  obtain ⟨x3, h3⟩ := step ((nI 0 * nI 10 + sgn C V s (nI 64)) * nI 10 + sgn C V s (nI 32)) (nI 16) x2 (by decide)
  obtain ⟨x4, h4⟩ := step (((nI 0 * nI 10 + sgn C V s (nI 64)) * nI 10 + sgn C V s (nI 32)) * nI 10 + sgn C V s (nI 16)) (nI 8) x3 (by decide)
  obtain ⟨x5, h5⟩ := step ((((nI 0 * nI 10 + sgn C V s (nI 64)) * nI 10 + sgn C V s (nI 32)) * nI 10 + sgn C V s (nI 16)) * nI 10 + sgn C V s (nI 8)) (nI 4) x4 (by decide)
  obtain ⟨x6, h6⟩ := step (((((nI 0 * nI 10 + sgn C V s (nI 64)) * nI 10 + sgn C V s (nI 32)) * nI 10 + sgn C V s (nI 16)) * nI 10 + sgn C V s (nI 8)) * nI 10 + sgn C V s (nI 4)) (nI 2) x5 (by decide)
  obtain ⟨x7, h7⟩ := step ((((((nI 0 * nI 10 + sgn C V s (nI 64)) * nI 10 + sgn C V s (nI 32)) * nI 10 + sgn C V s (nI 16)) * nI 10 + sgn C V s (nI 8)) * nI 10 + sgn C V s (nI 4)) * nI 10 + sgn C V s (nI 2)) (nI 1) x6 (by decide)
  rw [h1, show j_div (nI 64) (nI 2) = nI 32 by decide, h2, show j_div (nI 32) (nI 2) = nI 16 by decide, h3, show j_div (nI 16) (nI 2) = nI 8 by decide, h4, show j_div (nI 8) (nI 2) = nI 4 by decide, h5, show j_div (nI 4) (nI 2) = nI 2 by decide, h6, show j_div (nI 2) (nI 2) = nI 1 by decide, h7, show j_div (nI 1) (nI 2) = nI 0 by decide]
  simp (disch := decide) only [e_X5_signsOf_4, e_X5_signsOf_5, e_X5_signsOf_37, e_X5_signsOf_38, if_t]
/-- the slot by which the table answers -/
def ansS (R C V : Nat → Int32) (x : Int32) : Option Nat := fup (fts R C V x) 0 16
theorem q_answeringSlot (T : Tab h t R P C V) {d : Nat} {x : Int32} : xc XP (d + 2) 65 [.ref t, .int x] h = some (some (.int (oI (ansS R C V x))), h) := by
  rw [n_X5_answeringSlot]
  have hc := T.c
  simp only [e_X5_answeringSlot_0, e_X5_answeringSlot_1]
  have key := loop_fup (fun k => xe XP (d + 2) 65 (2, [.ref t, .int x, .int (nI k)], [], h)) (fts R C V x) (fun s => some (some (.int (nI s)), h)) 16 (by
    intro j hj
    rw [e_X5_answeringSlot_2]
    simp (disch := first | assumption | omega) only [e_X5_answeringSlot_3, e_X5_answeringSlot_4, e_X5_answeringSlot_5, e_X5_answeringSlot_6, e_X5_answeringSlot_7, e_X5_answeringSlot_8, e_X5_answeringSlot_9, e_X5_answeringSlot_10, e_X5_answeringSlot_11, e_X5_answeringSlot_12, e_X5_answeringSlot_13, q_fits T, xbk_i, bI_0, nI_leI, nI_add, if_f]
    cases fts R C V x j <;> simp) 16 0 rfl
  rw [key]
  unfold ansS
  cases fup (fts R C V x) 0 16 with
  | some s => rfl
  | none =>
    simp (disch := omega) only [e_X5_answeringSlot_2, e_X5_answeringSlot_3, e_X5_answeringSlot_4, e_X5_answeringSlot_14, e_X5_answeringSlot_15, nI_leI, if_t]
    rfl
theorem q_keysAnsweredBy (T : Tab h t R P C V) {d : Nat} {x : Int32} : xc XP (d + 3) 66 [.ref t, .int x] h = some (some (.int (nI (ct (fun k => decide (oI (ansS R C V (nI k)) = x)) 128))), h) := by
  rw [n_X5_keysAnsweredBy]
  have hc := T.c
  simp only [e_X5_keysAnsweredBy_0, e_X5_keysAnsweredBy_1, e_X5_keysAnsweredBy_2, e_X5_keysAnsweredBy_3]
  have key := loop_ct (fun k c => xe XP (d + 3) 66 (4, [.ref t, .int x, .int (nI c), .int (nI k)], [], h)) (fun k => decide (oI (ansS R C V (nI k)) = x)) 128 (by
    intro j c hj hcj
    rw [e_X5_keysAnsweredBy_4]
    simp (disch := first | assumption | omega) only [e_X5_keysAnsweredBy_5, e_X5_keysAnsweredBy_6, e_X5_keysAnsweredBy_7, e_X5_keysAnsweredBy_8, e_X5_keysAnsweredBy_9, e_X5_keysAnsweredBy_10, e_X5_keysAnsweredBy_11, e_X5_keysAnsweredBy_12, e_X5_keysAnsweredBy_13, e_X5_keysAnsweredBy_14, e_X5_keysAnsweredBy_15, e_X5_keysAnsweredBy_16, e_X5_keysAnsweredBy_17, e_X5_keysAnsweredBy_18, e_X5_keysAnsweredBy_19, q_answeringSlot T, xbk_i, nI_leI, nI_add, if_f]
    by_cases g : oI (ansS R C V (nI j)) = x <;> simp [g]) 128 (Nat.le_refl _)
  rw [key]
  simp (disch := omega) only [e_X5_keysAnsweredBy_4, e_X5_keysAnsweredBy_5, e_X5_keysAnsweredBy_6, e_X5_keysAnsweredBy_20, e_X5_keysAnsweredBy_21, nI_leI, if_t]
theorem q_rowsThatFit (T : Tab h t R P C V) {d : Nat} {x : Int32} : xc XP (d + 2) 67 [.ref t, .int x] h = some (some (.int (nI (ct (fts R C V x) 16))), h) := by
  rw [n_X5_rowsThatFit]
  have hc := T.c
  simp only [e_X5_rowsThatFit_0, e_X5_rowsThatFit_1, e_X5_rowsThatFit_2, e_X5_rowsThatFit_3]
  have key := loop_ct (fun k c => xe XP (d + 2) 67 (4, [.ref t, .int x, .int (nI c), .int (nI k)], [], h)) (fts R C V x) 16 (by
    intro j c hj hcj
    rw [e_X5_rowsThatFit_4]
    simp (disch := first | assumption | omega) only [e_X5_rowsThatFit_5, e_X5_rowsThatFit_6, e_X5_rowsThatFit_7, e_X5_rowsThatFit_8, e_X5_rowsThatFit_9, e_X5_rowsThatFit_10, e_X5_rowsThatFit_11, e_X5_rowsThatFit_12, e_X5_rowsThatFit_13, e_X5_rowsThatFit_14, e_X5_rowsThatFit_15, e_X5_rowsThatFit_16, e_X5_rowsThatFit_17, e_X5_rowsThatFit_18, e_X5_rowsThatFit_19, q_fits T, xbk_i, bI_0, nI_leI, nI_add, if_f]
    cases fts R C V x j <;> simp) 16 (Nat.le_refl _)
  rw [key]
  simp (disch := omega) only [e_X5_rowsThatFit_4, e_X5_rowsThatFit_5, e_X5_rowsThatFit_6, e_X5_rowsThatFit_20, e_X5_rowsThatFit_21, nI_leI, if_t]
/-- a block that is on -/
def hft (R C V : Nat → Int32) (x : Int32) (s : Nat) : Bool := !emp R s && decide ((x ^^^ V s) &&& C s &&& nI 112 = nI 0)
def bon (R C V : Nat → Int32) (x : Int32) : Int32 := itr (fun s a => if hft R C V x s = true then a ||| j_shl (nI 1) (j_div (nI s) (nI 4)) else a) (nI 0) 16
theorem q_blocksOn (T : Tab h t R P C V) {d : Nat} {x : Int32} : xc XP (d + 1) 68 [.ref t, .int x] h = some (some (.int (bon R C V x)), h) := by
  rw [n_X5_blocksOn]
  have hc := T.c
  simp only [e_X5_blocksOn_0, e_X5_blocksOn_1, e_X5_blocksOn_2, e_X5_blocksOn_3]
  have key := loop_itr (fun k a => xe XP (d + 1) 68 (4, [.ref t, .int x, .int a, .int (nI k)], [], h)) (fun s a => if hft R C V x s = true then a ||| j_shl (nI 1) (j_div (nI s) (nI 4)) else a) (nI 0) 16 (by
    intro j hj
    rw [e_X5_blocksOn_4]
    simp (disch := first | assumption | omega) only [e_X5_blocksOn_5, e_X5_blocksOn_6, e_X5_blocksOn_7, e_X5_blocksOn_8, e_X5_blocksOn_9, e_X5_blocksOn_10, e_X5_blocksOn_11, e_X5_blocksOn_12, e_X5_blocksOn_13, e_X5_blocksOn_14, e_X5_blocksOn_15, e_X5_blocksOn_16, e_X5_blocksOn_17, e_X5_blocksOn_18, e_X5_blocksOn_19, e_X5_blocksOn_20, e_X5_blocksOn_21, e_X5_blocksOn_22, e_X5_blocksOn_23, e_X5_blocksOn_24, e_X5_blocksOn_25, e_X5_blocksOn_26, e_X5_blocksOn_27, e_X5_blocksOn_28, e_X5_blocksOn_29, e_X5_blocksOn_30, e_X5_blocksOn_31, e_X5_blocksOn_32, e_X5_blocksOn_33, e_X5_blocksOn_34, T.f2, T.f3, T.lC, T.lV, q_isEmpty T, xbk_i, bI_0, Option.bind_some, nI_leI, nI_add, if_f]
    unfold hft
    cases emp R j <;> by_cases g : (x ^^^ V j) &&& C j &&& nI 112 = nI 0 <;> simp [g]) 16 (Nat.le_refl _)
  rw [key]
  simp (disch := omega) only [e_X5_blocksOn_4, e_X5_blocksOn_5, e_X5_blocksOn_6, e_X5_blocksOn_35, e_X5_blocksOn_36, nI_leI, if_t]
  rfl
theorem q_allBlocksOn (T : Tab h t R P C V) {d : Nat} : xc XP (d + 2) 69 [.ref t] h = some (some (.int (itr (fun k a => a + bcn (bon R C V (nI k))) (nI 0) 128)), h) := by
  rw [n_X5_allBlocksOn]
  have hc := T.c
  simp only [e_X5_allBlocksOn_0, e_X5_allBlocksOn_1, e_X5_allBlocksOn_2, e_X5_allBlocksOn_3]
  have key := loop_itr (fun k a => xe XP (d + 2) 69 (4, [.ref t, .int a, .int (nI k)], [], h)) (fun k a => a + bcn (bon R C V (nI k))) (nI 0) 128 (by
    intro j hj
    rw [e_X5_allBlocksOn_4]
    simp (disch := first | assumption | omega) only [e_X5_allBlocksOn_5, e_X5_allBlocksOn_6, e_X5_allBlocksOn_7, e_X5_allBlocksOn_8, e_X5_allBlocksOn_9, e_X5_allBlocksOn_10, e_X5_allBlocksOn_11, e_X5_allBlocksOn_12, e_X5_allBlocksOn_13, e_X5_allBlocksOn_14, e_X5_allBlocksOn_15, q_blocksOn T, q_bitCount, xbk_i, nI_leI, nI_add, if_f]) 128 (Nat.le_refl _)
  rw [key]
  simp (disch := omega) only [e_X5_allBlocksOn_4, e_X5_allBlocksOn_5, e_X5_allBlocksOn_6, e_X5_allBlocksOn_16, e_X5_allBlocksOn_17, nI_leI, if_t]
theorem q_mostBlocksOn (T : Tab h t R P C V) {d : Nat} : xc XP (d + 2) 70 [.ref t] h = some (some (.int (itr (fun k a => if a < bcn (bon R C V (nI k)) then bcn (bon R C V (nI k)) else a) (nI 0) 128)), h) := by
  rw [n_X5_mostBlocksOn]
  have hc := T.c
  simp only [e_X5_mostBlocksOn_0, e_X5_mostBlocksOn_1, e_X5_mostBlocksOn_2, e_X5_mostBlocksOn_3]
  have key := loop_itr (fun k a => xe XP (d + 2) 70 (4, [.ref t, .int a, .int (nI k)], [], h)) (fun k a => if a < bcn (bon R C V (nI k)) then bcn (bon R C V (nI k)) else a) (nI 0) 128 (by
    intro j hj
    rw [e_X5_mostBlocksOn_4]
    simp (disch := first | assumption | omega) only [e_X5_mostBlocksOn_5, e_X5_mostBlocksOn_6, e_X5_mostBlocksOn_7, e_X5_mostBlocksOn_8, e_X5_mostBlocksOn_9, e_X5_mostBlocksOn_10, e_X5_mostBlocksOn_11, e_X5_mostBlocksOn_12, e_X5_mostBlocksOn_13, e_X5_mostBlocksOn_14, e_X5_mostBlocksOn_15, q_blocksOn T, q_bitCount, q_max, xbk_i, nI_leI, nI_add, if_f]) 128 (Nat.le_refl _)
  rw [key]
  simp (disch := omega) only [e_X5_mostBlocksOn_4, e_X5_mostBlocksOn_5, e_X5_mostBlocksOn_6, e_X5_mostBlocksOn_16, e_X5_mostBlocksOn_17, nI_leI, if_t]
def blo (R C V : Nat → Int32) (s l : Nat) : Bool := !emp R l && (decide (C l = C s) && decide (V l = V s))
theorem q_isBelow (T : Tab h t R P C V) {d s : Nat} (hs : s < 17) : xc XP (d + 1) 73 [.ref t, .int (nI s)] h = some (some (.int (bI (fup (blo R C V s) 0 s).isSome)), h) := by
  rw [n_X5_isBelow]
  have hc := T.c
  simp only [e_X5_isBelow_0, e_X5_isBelow_1]
  have key := loop_fup (fun k => xe XP (d + 1) 73 (2, [.ref t, .int (nI s), .int (nI k)], [], h)) (blo R C V s) (fun _ => some (some (.int (nI 1)), h)) s (by
    intro j hj
    rw [e_X5_isBelow_2]
    simp (disch := first | assumption | omega) only [e_X5_isBelow_3, e_X5_isBelow_4, e_X5_isBelow_5, e_X5_isBelow_6, e_X5_isBelow_7, e_X5_isBelow_8, e_X5_isBelow_9, e_X5_isBelow_10, e_X5_isBelow_11, e_X5_isBelow_12, e_X5_isBelow_13, e_X5_isBelow_14, e_X5_isBelow_15, e_X5_isBelow_16, e_X5_isBelow_17, e_X5_isBelow_18, e_X5_isBelow_19, e_X5_isBelow_20, e_X5_isBelow_21, e_X5_isBelow_22, e_X5_isBelow_23, e_X5_isBelow_24, e_X5_isBelow_25, e_X5_isBelow_26, e_X5_isBelow_27, e_X5_isBelow_28, e_X5_isBelow_29, e_X5_isBelow_30, T.f2, T.f3, T.lC, T.lV, q_isEmpty T, xbk_i, bI_0, Option.bind_some, nI_leI, nI_add, rk_1, if_t, if_f]
    unfold blo
    cases emp R j <;> by_cases g1 : C j = C s <;> by_cases g2 : V j = V s <;> simp [g1, g2]) s 0 (by omega)
  rw [key]
  cases fup (blo R C V s) 0 s with
  | some l => rfl
  | none =>
    simp (disch := omega) only [e_X5_isBelow_2, e_X5_isBelow_3, e_X5_isBelow_4, e_X5_isBelow_31, e_X5_isBelow_32, nI_leI, if_t, rk_0]
    rfl
theorem q_differentRows (T : Tab h t R P C V) {d : Nat} : xc XP (d + 2) 72 [.ref t] h = some (some (.int (nI (ct (fun s => !emp R s && !(fup (blo R C V s) 0 s).isSome) 16))), h) := by
  rw [n_X5_differentRows]
  have hc := T.c
  simp only [e_X5_differentRows_0, e_X5_differentRows_1, e_X5_differentRows_2, e_X5_differentRows_3]
  have key := loop_ct (fun k c => xe XP (d + 2) 72 (4, [.ref t, .int (nI c), .int (nI k)], [], h)) (fun s => !emp R s && !(fup (blo R C V s) 0 s).isSome) 16 (by
    intro j c hj hcj
    rw [e_X5_differentRows_4]
    simp (disch := first | assumption | omega) only [e_X5_differentRows_5, e_X5_differentRows_6, e_X5_differentRows_7, e_X5_differentRows_8, e_X5_differentRows_9, e_X5_differentRows_10, e_X5_differentRows_11, e_X5_differentRows_12, e_X5_differentRows_13, e_X5_differentRows_14, e_X5_differentRows_15, e_X5_differentRows_16, e_X5_differentRows_17, e_X5_differentRows_18, e_X5_differentRows_19, e_X5_differentRows_20, e_X5_differentRows_21, e_X5_differentRows_22, q_isEmpty T, q_isBelow T, xbk_i, bI_0, nI_leI, nI_add, if_f]
    cases emp R j <;> cases (fup (blo R C V j) 0 j).isSome <;> simp) 16 (Nat.le_refl _)
  rw [key]
  simp (disch := omega) only [e_X5_differentRows_4, e_X5_differentRows_5, e_X5_differentRows_6, e_X5_differentRows_23, e_X5_differentRows_24, nI_leI, if_t]
def prm (R C V : Nat → Int32) (a b : Nat) : Bool := !emp R a && (!emp R b && (!decide (R a = R b) && mts C V a b))
theorem q_pairsThatMeet (T : Tab h t R P C V) {d : Nat} : xc XP (d + 1) 71 [.ref t] h = some (some (.int (nI (itr (fun a n => n + ct (fun b => decide (a + 1 ≤ b) && prm R C V a b) 16) 0 16))), h) := by
  rw [n_X5_pairsThatMeet]
  have hc := T.c
  simp only [e_X5_pairsThatMeet_0, e_X5_pairsThatMeet_1, e_X5_pairsThatMeet_2, e_X5_pairsThatMeet_3]
  have dead : ∀ (a b c : Nat) (v : Int32), a < 16 → b ≤ 16 → xe XP (d + 1) 71 (11, [.ref t, .int (nI c), .int (nI a), .int (nI b), .int v], [], h) = xe XP (d + 1) 71 (11, [.ref t, .int (nI c), .int (nI a), .int (nI b), .null], [], h) := by
    intro a b c v ha hb
    rw [e_X5_pairsThatMeet_11 (a4 := .int v), e_X5_pairsThatMeet_11 (a4 := .null)]
    by_cases hb2 : b < 16
    · simp (disch := first | assumption | omega) only [e_X5_pairsThatMeet_12, e_X5_pairsThatMeet_13, e_X5_pairsThatMeet_14, e_X5_pairsThatMeet_15, e_X5_pairsThatMeet_16, e_X5_pairsThatMeet_17, e_X5_pairsThatMeet_18, e_X5_pairsThatMeet_19, e_X5_pairsThatMeet_20, e_X5_pairsThatMeet_21, e_X5_pairsThatMeet_22, e_X5_pairsThatMeet_23, e_X5_pairsThatMeet_24, e_X5_pairsThatMeet_25, e_X5_pairsThatMeet_26, e_X5_pairsThatMeet_27, e_X5_pairsThatMeet_28, e_X5_pairsThatMeet_29, e_X5_pairsThatMeet_30, e_X5_pairsThatMeet_31, e_X5_pairsThatMeet_32, e_X5_pairsThatMeet_33, e_X5_pairsThatMeet_34, e_X5_pairsThatMeet_35, e_X5_pairsThatMeet_36, e_X5_pairsThatMeet_37, e_X5_pairsThatMeet_38, e_X5_pairsThatMeet_39, e_X5_pairsThatMeet_40, e_X5_pairsThatMeet_41, e_X5_pairsThatMeet_42, e_X5_pairsThatMeet_43, e_X5_pairsThatMeet_44, e_X5_pairsThatMeet_45, e_X5_pairsThatMeet_46, e_X5_pairsThatMeet_47, e_X5_pairsThatMeet_48, e_X5_pairsThatMeet_49, T.f0, T.lR, Option.bind_some, q_isEmpty T, q_meets T, xbk_i, bI_0, nI_leI, nI_add, nI_eq, if_t, if_f]
    · simp (disch := first | assumption | omega) only [e_X5_pairsThatMeet_12, e_X5_pairsThatMeet_13, e_X5_pairsThatMeet_50, e_X5_pairsThatMeet_51, nI_leI, nI_add, if_t]
      rw [e_X5_pairsThatMeet_4 (a4 := .int v), e_X5_pairsThatMeet_4 (a4 := .null)]
      by_cases ha2 : a + 1 < 16
      · simp (disch := first | assumption | omega) only [e_X5_pairsThatMeet_5, e_X5_pairsThatMeet_6, e_X5_pairsThatMeet_7, e_X5_pairsThatMeet_8, e_X5_pairsThatMeet_9, e_X5_pairsThatMeet_10, nI_leI, nI_add, if_f]
        rw [e_X5_pairsThatMeet_11 (a4 := .int v), e_X5_pairsThatMeet_11 (a4 := .null)]
        by_cases ha3 : a + 2 < 16
        · simp (disch := first | assumption | omega) only [e_X5_pairsThatMeet_12, e_X5_pairsThatMeet_13, e_X5_pairsThatMeet_14, e_X5_pairsThatMeet_15, e_X5_pairsThatMeet_16, e_X5_pairsThatMeet_17, e_X5_pairsThatMeet_18, e_X5_pairsThatMeet_19, e_X5_pairsThatMeet_20, e_X5_pairsThatMeet_21, e_X5_pairsThatMeet_22, e_X5_pairsThatMeet_23, e_X5_pairsThatMeet_24, e_X5_pairsThatMeet_25, e_X5_pairsThatMeet_26, e_X5_pairsThatMeet_27, e_X5_pairsThatMeet_28, e_X5_pairsThatMeet_29, e_X5_pairsThatMeet_30, e_X5_pairsThatMeet_31, e_X5_pairsThatMeet_32, e_X5_pairsThatMeet_33, e_X5_pairsThatMeet_34, e_X5_pairsThatMeet_35, e_X5_pairsThatMeet_36, e_X5_pairsThatMeet_37, e_X5_pairsThatMeet_38, e_X5_pairsThatMeet_39, e_X5_pairsThatMeet_40, e_X5_pairsThatMeet_41, e_X5_pairsThatMeet_42, e_X5_pairsThatMeet_43, e_X5_pairsThatMeet_44, e_X5_pairsThatMeet_45, e_X5_pairsThatMeet_46, e_X5_pairsThatMeet_47, e_X5_pairsThatMeet_48, e_X5_pairsThatMeet_49, T.f0, T.lR, Option.bind_some, q_isEmpty T, q_meets T, xbk_i, bI_0, nI_leI, nI_add, nI_eq, if_t, if_f]
        · simp (disch := first | assumption | omega) only [e_X5_pairsThatMeet_12, e_X5_pairsThatMeet_13, e_X5_pairsThatMeet_50, e_X5_pairsThatMeet_51, nI_leI, nI_add, if_t]
          rw [e_X5_pairsThatMeet_4 (a4 := .int v), e_X5_pairsThatMeet_4 (a4 := .null)]
          simp (disch := first | assumption | omega) only [e_X5_pairsThatMeet_5, e_X5_pairsThatMeet_6, e_X5_pairsThatMeet_52, e_X5_pairsThatMeet_53, nI_leI, nI_add, if_t]
      · simp (disch := first | assumption | omega) only [e_X5_pairsThatMeet_5, e_X5_pairsThatMeet_6, e_X5_pairsThatMeet_52, e_X5_pairsThatMeet_53, nI_leI, nI_add, if_t]
  have inner : ∀ (a n : Nat), a < 16 → n < 1000 → xe XP (d + 1) 71 (11, [.ref t, .int (nI n), .int (nI a), .int (nI (a + 1)), .null], [], h) = xe XP (d + 1) 71 (11, [.ref t, .int (nI (n + ct (fun b => decide (a + 1 ≤ b) && prm R C V a b) 16)), .int (nI a), .int (nI 16), .null], [], h) := by
    intro a n ha hn
    have key := loop_ctr (fun b c => xe XP (d + 1) 71 (11, [.ref t, .int (nI (n + c)), .int (nI a), .int (nI b), .null], [], h)) (prm R C V a) (a + 1) 16 (by
      intro b c hb1 hb hcb
      rw [e_X5_pairsThatMeet_11]
      simp (disch := first | assumption | omega) only [e_X5_pairsThatMeet_12, e_X5_pairsThatMeet_13, e_X5_pairsThatMeet_14, e_X5_pairsThatMeet_15, e_X5_pairsThatMeet_16, e_X5_pairsThatMeet_17, e_X5_pairsThatMeet_18, e_X5_pairsThatMeet_19, e_X5_pairsThatMeet_20, e_X5_pairsThatMeet_21, e_X5_pairsThatMeet_22, e_X5_pairsThatMeet_23, e_X5_pairsThatMeet_24, e_X5_pairsThatMeet_25, e_X5_pairsThatMeet_26, e_X5_pairsThatMeet_27, e_X5_pairsThatMeet_28, e_X5_pairsThatMeet_29, e_X5_pairsThatMeet_30, e_X5_pairsThatMeet_31, e_X5_pairsThatMeet_32, e_X5_pairsThatMeet_33, e_X5_pairsThatMeet_34, e_X5_pairsThatMeet_35, e_X5_pairsThatMeet_36, e_X5_pairsThatMeet_37, e_X5_pairsThatMeet_38, e_X5_pairsThatMeet_39, e_X5_pairsThatMeet_40, e_X5_pairsThatMeet_41, e_X5_pairsThatMeet_42, e_X5_pairsThatMeet_43, e_X5_pairsThatMeet_44, e_X5_pairsThatMeet_45, e_X5_pairsThatMeet_46, e_X5_pairsThatMeet_47, e_X5_pairsThatMeet_48, e_X5_pairsThatMeet_49, T.f0, T.lR, Option.bind_some, q_isEmpty T, q_meets T, xbk_i, bI_0, nI_leI, nI_add, nI_eq, if_t, if_f, dead]
      unfold prm
      by_cases g1 : R a = R b <;> cases emp R a <;> cases emp R b <;> cases mts C V a b <;> simp [g1, Nat.add_assoc]) (15 - a) (by omega)
    rw [show a + 1 + (15 - a) = 16 by omega] at key
    exact key
  have bd : ∀ a, itr (fun a n => n + ct (fun b => decide (a + 1 ≤ b) && prm R C V a b) 16) 0 a ≤ 16 * a := by
    intro a
    induction a with
    | zero => exact Nat.le_refl _
    | succ a ih =>
      have := ct_le (fun b => decide (a + 1 ≤ b) && prm R C V a b) 16
      show itr _ 0 a + _ ≤ _
      omega
  have dead2 : ∀ (a c b : Nat), a ≤ 16 → xe XP (d + 1) 71 (4, [.ref t, .int (nI c), .int (nI a), .int (nI b), .null], [], h) = xe XP (d + 1) 71 (4, [.ref t, .int (nI c), .int (nI a), .null, .null], [], h) := by
    intro a c b ha
    rw [e_X5_pairsThatMeet_4 (a3 := .int (nI b)), e_X5_pairsThatMeet_4 (a3 := .null)]
    by_cases ha2 : a < 16
    · simp (disch := first | assumption | omega) only [e_X5_pairsThatMeet_5, e_X5_pairsThatMeet_6, e_X5_pairsThatMeet_7, e_X5_pairsThatMeet_8, e_X5_pairsThatMeet_9, e_X5_pairsThatMeet_10, nI_leI, nI_add, if_f]
    · simp (disch := first | assumption | omega) only [e_X5_pairsThatMeet_5, e_X5_pairsThatMeet_6, e_X5_pairsThatMeet_52, e_X5_pairsThatMeet_53, nI_leI, if_t]
  have key := loop_itr (fun a n => xe XP (d + 1) 71 (4, [.ref t, .int (nI n), .int (nI a), .null, .null], [], h)) (fun a n => n + ct (fun b => decide (a + 1 ≤ b) && prm R C V a b) 16) 0 16 (by
    intro a ha
    have hb := bd a
    rw [e_X5_pairsThatMeet_4]
    simp (disch := first | assumption | omega) only [e_X5_pairsThatMeet_5, e_X5_pairsThatMeet_6, e_X5_pairsThatMeet_7, e_X5_pairsThatMeet_8, e_X5_pairsThatMeet_9, e_X5_pairsThatMeet_10, nI_leI, nI_add, if_f]
    rw [inner a _ ha (by omega)]
    simp (disch := omega) only [e_X5_pairsThatMeet_11, e_X5_pairsThatMeet_12, e_X5_pairsThatMeet_13, e_X5_pairsThatMeet_50, e_X5_pairsThatMeet_51, nI_leI, nI_add, if_t]
    rw [dead2 (a + 1) _ 16 (by omega)]) 16 (Nat.le_refl _)
  rw [key]
  simp (disch := omega) only [e_X5_pairsThatMeet_4, e_X5_pairsThatMeet_5, e_X5_pairsThatMeet_6, e_X5_pairsThatMeet_52, e_X5_pairsThatMeet_53, nI_leI, if_t]
end TabR2
