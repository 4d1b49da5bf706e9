/-! THE MODEL: a row of numbers that holds a board; what it reads of it -/
def RwL (f : Nat → Int32) (l : List Rl) : Prop := l.length ≤ 16 ∧ (∀ q ∈ l, vr q) ∧ f 0 = nI l.length ∧ ∀ j, j < l.length → f (1 + j) = nI (rlN l j).1 ∧ f (17 + j) = nI (rlN l j).2.1 ∧ f (33 + j) = nI (rlN l j).2.2.1 ∧ f (49 + j) = nI (rlN l j).2.2.2.1 ∧ f (65 + j) = nI (rlN l j).2.2.2.2
def rsIs (f : Nat → Int32) (l : List Rl) (s : Nat) (o : Option (Nat × Nat)) : Prop := match o with
  | none => f (81 + s) = -4
  | some x => x.1 < l.length ∧ x.2 < rwR (rlN l x.1) ∧ f (81 + s) = nI x.1 ∧ f (97 + s) = nI x.2
def RwS (f : Nat → Int32) (l : List Rl) (σ : Sl) : Prop := ∀ s, s < 16 → rsIs f l s (σ s)
theorem q_in {d : Nat} (v a b : Int32) {h : XH} : xc XP d 111 [.int v, .int a, .int b] h = some (some (.int (bI (decide (a ≤ v ∧ v ≤ b)))), h) := by
  rw [n_X8_in]
  simp only [e_X8_in_0, e_X8_in_1, e_X8_in_2, e_X8_in_3, e_X8_in_4, e_X8_in_5, e_X8_in_6, e_X8_in_7, e_X8_in_8, e_X8_in_9, rk_0, rk_1, if_true]
  by_cases g1 : v < a
  · rw [if_pos g1, decide_eq_false (fun hh => absurd g1 (Int32.not_lt.mpr hh.1))]; rfl
  · rw [if_neg g1]
    by_cases g2 : b < v
    · rw [if_pos g2, decide_eq_false (fun hh => absurd g2 (Int32.not_lt.mpr hh.2))]; rfl
    · rw [if_neg g2, decide_eq_true ⟨Int32.not_lt.mp g1, Int32.not_lt.mp g2⟩]; rfl
theorem q_pieceFrom {d f t : Nat} {h : XH} (hf : f ≤ t) (ht : t < 1000) : xc XP d 115 [.int (nI f), .int (nI t)] h = some (some (.int (nI (psz f t))), h) := by
  rw [n_X8_pieceFrom]
  simp only [e_X8_pieceFrom_0, e_X8_pieceFrom_1]
  have step : ∀ n, 1 ≤ n → n < 100 → xe XP d 115 (2, [.int (nI f), .int (nI t), .int (nI n)], [], h) = if f % n = 0 ∧ f + n - 1 ≤ t then some (some (.int (nI n)), h) else xe XP d 115 (2, [.int (nI f), .int (nI t), .int (nI (n / 2))], [], h) := by
    intro n h1 h2
    have hm : f % n < 2 ^ 31 := Nat.lt_trans (Nat.mod_lt f (by omega)) (by omega)
    have hn0 : ¬ nI n = 0 := fun e => by have := (nI_eq (a := n) (b := 0) (by omega) (by decide)).mp e; omega
    rw [e_X8_pieceFrom_2]
    simp (disch := first | assumption | omega) only [e_X8_pieceFrom_3, e_X8_pieceFrom_4, e_X8_pieceFrom_5, e_X8_pieceFrom_6, e_X8_pieceFrom_7, e_X8_pieceFrom_8, e_X8_pieceFrom_9, e_X8_pieceFrom_10, e_X8_pieceFrom_11, e_X8_pieceFrom_12, e_X8_pieceFrom_13, e_X8_pieceFrom_14, e_X8_pieceFrom_15, e_X8_pieceFrom_16, e_X8_pieceFrom_17, e_X8_pieceFrom_18, e_X8_pieceFrom_19, jrem, jdiv, nI_eq, nI_add, pk_sub, nI_leI, hn0, if_false]
    by_cases a1 : f % n = 0
    · by_cases a2 : f + n - 1 ≤ t <;> simp [a1, a2]
    · simp [a1]
  rw [step 16 (by omega) (by omega)]
  unfold psz
  by_cases a1 : f % 16 = 0 ∧ f + 15 ≤ t
  · rw [if_pos (by omega), if_pos a1]
  · rw [if_neg (by omega), if_neg a1, step 8 (by omega) (by omega)]
    by_cases a2 : f % 8 = 0 ∧ f + 7 ≤ t
    · rw [if_pos (by omega), if_pos a2]
    · rw [if_neg (by omega), if_neg a2, step 4 (by omega) (by omega)]
      by_cases a3 : f % 4 = 0 ∧ f + 3 ≤ t
      · rw [if_pos (by omega), if_pos a3]
      · rw [if_neg (by omega), if_neg a3, step 2 (by omega) (by omega)]
        by_cases a4 : f % 2 = 0 ∧ f + 1 ≤ t
        · rw [if_pos (by omega), if_pos a4]
        · rw [if_neg (by omega), if_neg a4, step 1 (by omega) (by omega), if_pos (by omega)]
section RowR
variable {h : XH} {a : Nat} {f : Nat → Int32} {l : List Rl} {d : Nat}
theorem ra_ld (A : h[a]? = some (ia 113 f)) (k : Nat) (hk : k < 113) : xld h a 0 (nI k) = some (f k) := xld_ia A (by decide) hk
theorem q_rowsOfM (A : h[a]? = some (ia 113 f)) (L : RwL f l) {r : Nat} (hr : r < l.length) : xc XP (d + 1) 116 [.ref a, .int (nI r)] h = some (some (.int (nI (rwR (rlN l r)))), h) := by
  obtain ⟨l1, l2, l3, l4⟩ := L
  obtain ⟨r1, r2, r3, r4, r5⟩ := l4 r hr
  have v := l2 _ (rlN_mem hr)
  have v4 := v.2.2.2.1
  have v3 := v.2.2.1
  have h6 : rwR (rlN l r) ≤ 6 := rwF_le 6 _ _
  rw [n_X8_rowsOf]
  simp (disch := first | assumption | omega) only [e_X8_rowsOf_0, e_X8_rowsOf_1, e_X8_rowsOf_2, e_X8_rowsOf_3, e_X8_rowsOf_4, e_X8_rowsOf_5, e_X8_rowsOf_6, e_X8_rowsOf_7, nI_add, ra_ld A, Option.bind_some, r3]
  have key : ∀ n p, p + n = rwR (rlN l r) → xe XP (d + 1) 116 (8, [.ref a, .int (nI r), .int (nI p), .int (nI (tlN (rlN l r) p))], [], h) = some (some (.int (nI (rwR (rlN l r)))), h) := by
    intro n
    induction n with
    | zero =>
      intro p hp
      have hp : p = rwR (rlN l r) := by omega
      subst hp
      have he := tl_end v
      have hpos := rwR_pos v
      obtain ⟨m, hm⟩ : ∃ m, rwR (rlN l r) = m + 1 := ⟨rwR (rlN l r) - 1, by omega⟩
      have hb : tlN (rlN l r) (rwR (rlN l r)) < 100 := by
        rw [hm, tl_succ]
        have := tl_le v (p := m) (by omega)
        have := psz_pos (tlN (rlN l r) m) (rlN l r).2.2.2.1
        omega
      simp (disch := first | assumption | omega) only [e_X8_rowsOf_8, e_X8_rowsOf_9, e_X8_rowsOf_10, e_X8_rowsOf_11, e_X8_rowsOf_12, e_X8_rowsOf_13, e_X8_rowsOf_14, e_X8_rowsOf_27, e_X8_rowsOf_28, nI_add, ra_ld A, Option.bind_some, r4, nI_ltI, if_t]
    | succ n ih =>
      intro p hp
      have ht := tl_le v (p := p) (by omega)
      have hps := psz_pos (tlN (rlN l r) p) (rlN l r).2.2.2.1
      have i2 := ih (p + 1) (by omega)
      rw [tl_succ] at i2
      rw [e_X8_rowsOf_8]
      simp (disch := first | assumption | omega) only [e_X8_rowsOf_9, e_X8_rowsOf_10, e_X8_rowsOf_11, e_X8_rowsOf_12, e_X8_rowsOf_13, e_X8_rowsOf_14, e_X8_rowsOf_15, e_X8_rowsOf_16, e_X8_rowsOf_17, e_X8_rowsOf_18, e_X8_rowsOf_19, e_X8_rowsOf_20, e_X8_rowsOf_21, e_X8_rowsOf_22, e_X8_rowsOf_23, e_X8_rowsOf_24, e_X8_rowsOf_25, e_X8_rowsOf_26, nI_add, ra_ld A, Option.bind_some, r4, nI_ltI, if_f, q_pieceFrom, xbk_i, i2]
  exact key (rwR (rlN l r)) 0 (by omega)
theorem q_pieceOf (A : h[a]? = some (ia 113 f)) (L : RwL f l) {r p : Nat} (hr : r < l.length) (hp : p < rwR (rlN l r)) : xc XP (d + 1) 117 [.ref a, .int (nI r), .int (nI p)] h = some (some (.int (nI (tlN (rlN l r) p + 16 * psz (tlN (rlN l r) p) (rlN l r).2.2.2.1))), h) := by
  obtain ⟨l1, l2, l3, l4⟩ := L
  obtain ⟨r1, r2, r3, r4, r5⟩ := l4 r hr
  have v := l2 _ (rlN_mem hr)
  have v4 := v.2.2.2.1
  have h6 : rwR (rlN l r) ≤ 6 := rwF_le 6 _ _
  rw [n_X8_pieceOf]
  simp (disch := first | assumption | omega) only [e_X8_pieceOf_0, e_X8_pieceOf_1, e_X8_pieceOf_2, e_X8_pieceOf_3, e_X8_pieceOf_4, e_X8_pieceOf_5, e_X8_pieceOf_6, e_X8_pieceOf_7, nI_add, ra_ld A, Option.bind_some, r3]
  have key : ∀ n k, k + n = p → xe XP (d + 1) 117 (8, [.ref a, .int (nI r), .int (nI p), .int (nI (tlN (rlN l r) k)), .int (nI k)], [], h) = some (some (.int (nI (tlN (rlN l r) p + 16 * psz (tlN (rlN l r) p) (rlN l r).2.2.2.1))), h) := by
    intro n
    induction n with
    | zero =>
      intro k hk
      have hk : k = p := by omega
      subst hk
      have ht := tl_le v (p := k) (by omega)
      have hps := psz_pos (tlN (rlN l r) k) (rlN l r).2.2.2.1
      simp (disch := first | assumption | omega) only [e_X8_pieceOf_8, e_X8_pieceOf_9, e_X8_pieceOf_10, e_X8_pieceOf_23, e_X8_pieceOf_24, e_X8_pieceOf_25, e_X8_pieceOf_26, e_X8_pieceOf_27, e_X8_pieceOf_28, e_X8_pieceOf_29, e_X8_pieceOf_30, e_X8_pieceOf_31, e_X8_pieceOf_32, e_X8_pieceOf_33, e_X8_pieceOf_34, nI_add, ra_ld A, Option.bind_some, r4, nI_leI, if_t, q_pieceFrom, xbk_i, pk_mul]
    | succ n ih =>
      intro k hk
      have ht := tl_le v (p := k) (by omega)
      have hps := psz_pos (tlN (rlN l r) k) (rlN l r).2.2.2.1
      have i2 := ih (k + 1) (by omega)
      rw [tl_succ] at i2
      rw [e_X8_pieceOf_8]
      simp (disch := first | assumption | omega) only [e_X8_pieceOf_9, e_X8_pieceOf_10, e_X8_pieceOf_11, e_X8_pieceOf_12, e_X8_pieceOf_13, e_X8_pieceOf_14, e_X8_pieceOf_15, e_X8_pieceOf_16, e_X8_pieceOf_17, e_X8_pieceOf_18, e_X8_pieceOf_19, e_X8_pieceOf_20, e_X8_pieceOf_21, e_X8_pieceOf_22, nI_add, ra_ld A, Option.bind_some, r4, nI_leI, if_f, q_pieceFrom, xbk_i, i2]
  exact key p 0 (by omega)
end RowR
