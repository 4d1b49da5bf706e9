/-! THE MODEL: masks, what meets and fits, which keys a rule has -/
def mskF (q : Rl) (u : Nat) : Nat → Nat → Nat × Nat → Nat × Nat
  | 0, _, p => p
  | n + 1, k, p => mskF q u n (k + 1) (p.1 ||| (if sgK q u k < 2 then 2 ^ (6 - k) else 0), p.2 ||| (if sgK q u k = 1 then 2 ^ (6 - k) else 0))
def orB (c : Nat) : Nat := ((((((0 ||| (if c &&& 64 = 0 then 0 else 64)) ||| (if c &&& 32 = 0 then 0 else 32)) ||| (if c &&& 16 = 0 then 0 else 16)) ||| (if c &&& 8 = 0 then 0 else 8)) ||| (if c &&& 4 = 0 then 0 else 4)) ||| (if c &&& 2 = 0 then 0 else 2)) ||| (if c &&& 1 = 0 then 0 else 1)
theorem orB_eq : ∀ c, c < 128 → orB c = c := by decide
theorem mskF_eq {q : Rl} (v : vr q) {u : Nat} (hu : u < 16) : mskF q u 7 0 (0, 0) = (cwT q u, vwT q u) := by
  have e1 : ∀ k, k < 7 → (if sgK q u k < 2 then 2 ^ (6 - k) else 0) = if cwT q u &&& 2 ^ (6 - k) = 0 then 0 else 2 ^ (6 - k) := by
    intro k hk
    rw [sgK_eq v hu hk]
    unfold sg1
    by_cases h0 : cwT q u &&& 2 ^ (6 - k) = 0
    · rw [if_pos h0, if_pos h0, if_neg (by omega)]
    · rw [if_neg h0, if_neg h0]
      by_cases h1 : vwT q u &&& 2 ^ (6 - k) = 0
      · rw [if_pos h1, if_pos (by omega)]
      · rw [if_neg h1, if_pos (by omega)]
  have e2 : ∀ k, k < 7 → (if sgK q u k = 1 then 2 ^ (6 - k) else 0) = if vwT q u &&& 2 ^ (6 - k) = 0 then 0 else 2 ^ (6 - k) := by
    intro k hk
    rw [sgK_eq v hu hk]
    unfold sg1
    by_cases h1 : vwT q u &&& 2 ^ (6 - k) = 0
    · rw [if_pos h1, if_pos h1]
      split <;> rw [if_neg (by omega)]
    · rw [if_neg h1, if_neg h1]
      have h0 : ¬ cwT q u &&& 2 ^ (6 - k) = 0 := by
        intro h0
        apply h1
        rw [← vwT_c, Nat.and_assoc, h0, Nat.and_zero]
      rw [if_neg h0, if_pos rfl]
  have a := orB_eq _ (cwT_lt q u)
  have b := orB_eq _ (vwT_lt q u)
  unfold orB at a b
  simp only [mskF]
  rw [e1 0 (by decide), e1 1 (by decide), e1 2 (by decide), e1 3 (by decide), e1 4 (by decide), e1 5 (by decide), e1 6 (by decide), e2 0 (by decide), e2 1 (by decide), e2 2 (by decide), e2 3 (by decide), e2 4 (by decide), e2 5 (by decide), e2 6 (by decide)]
  exact Prod.ext a b
def mk (l : List Rl) (x : Nat × Nat) : Nat := cX l x + 128 * vX l x
theorem mk_lt (l : List Rl) (x : Nat × Nat) : mk l x < 16512 := by have := cX_lt l x; have := vX_lt l x; unfold mk; omega
theorem mk_d (l : List Rl) (x : Nat × Nat) : mk l x / 128 = vX l x := by have := cX_lt l x; unfold mk; omega
theorem mk_m (l : List Rl) (x : Nat × Nat) : mk l x &&& 127 = cX l x := by
  have := Nat.and_two_pow_sub_one_eq_mod (mk l x) 7
  rw [show 2 ^ 7 - 1 = 127 by decide] at this
  rw [this]
  have := cX_lt l x
  unfold mk
  omega
theorem and4 (a b c m : Nat) : a &&& b &&& c &&& m = a &&& (b &&& m) &&& (c &&& m) := by
  apply Nat.eq_of_testBit_eq
  intro i
  simp only [Nat.testBit_and]
  cases a.testBit i <;> cases b.testBit i <;> cases c.testBit i <;> cases m.testBit i <;> rfl
section Row3R
variable {h : XH} {a : Nat} {f : Nat → Int32} {l : List Rl} {d : Nat}
theorem q_maskOf (A : h[a]? = some (ia 113 f)) (L : RwL f l) {r p : Nat} (hr : r < l.length) (hp : p < rwR (rlN l r)) : xc XP (d + 3) 119 [.ref a, .int (nI r), .int (nI p)] h = some (some (.int (nI (mk l (r, p)))), h) := by
  have v := L.2.1 _ (rlN_mem hr)
  have v4 := v.2.2.2.1
  have ht := tl_le v hp
  rw [n_X8_maskOf]
  simp only [e_X8_maskOf_0, e_X8_maskOf_1, e_X8_maskOf_2, e_X8_maskOf_3, e_X8_maskOf_4, e_X8_maskOf_5]
  have key : ∀ n k (p2 : Nat × Nat) (w : Value), k + n = 7 → ∃ w', xe XP (d + 3) 119 (6, [.ref a, .int (nI r), .int (nI p), .int (nI p2.1), .int (nI p2.2), .int (nI k), w], [], h) = xe XP (d + 3) 119 (39, [.ref a, .int (nI r), .int (nI p), .int (nI (mskF (rlN l r) (tlN (rlN l r) p) n k p2).1), .int (nI (mskF (rlN l r) (tlN (rlN l r) p) n k p2).2), .int (nI 7), w'], [], h) := by
    intro n
    induction n with
    | zero =>
      intro k p2 w hk
      have hk : k = 7 := by omega
      subst hk
      refine ⟨w, ?_⟩
      simp (disch := first | assumption | omega) only [e_X8_maskOf_6, e_X8_maskOf_7, e_X8_maskOf_8, nI_leI, if_t, Nat.le_refl, if_true]
      rfl
    | succ n ih =>
      intro k p2 w hk
      obtain ⟨w', e⟩ := ih (k + 1) (p2.1 ||| (if sgK (rlN l r) (tlN (rlN l r) p) k < 2 then 2 ^ (6 - k) else 0), p2.2 ||| (if sgK (rlN l r) (tlN (rlN l r) p) k = 1 then 2 ^ (6 - k) else 0)) (.int (nI (sgK (rlN l r) (tlN (rlN l r) p) k))) (by omega)
      refine ⟨w', ?_⟩
      have sr : ∀ e, e < 7 → j_shr (nI 64) (nI e) = nI (2 ^ (6 - e)) := by decide
      have sr' := sr k (by omega)
      have hs : sgK (rlN l r) (tlN (rlN l r) p) k < 2 ^ 31 := by
        rw [sgK_eq v (by omega) (by omega)]
        unfold sg1
        split
        · omega
        · split <;> omega
      rw [e_X8_maskOf_6]
      simp (disch := first | assumption | omega) only [e_X8_maskOf_7, e_X8_maskOf_8, e_X8_maskOf_9, e_X8_maskOf_10, e_X8_maskOf_11, e_X8_maskOf_12, e_X8_maskOf_13, e_X8_maskOf_14, e_X8_maskOf_15, e_X8_maskOf_16, e_X8_maskOf_17, e_X8_maskOf_18, e_X8_maskOf_19, e_X8_maskOf_20, e_X8_maskOf_21, e_X8_maskOf_22, e_X8_maskOf_23, e_X8_maskOf_24, e_X8_maskOf_25, e_X8_maskOf_26, e_X8_maskOf_27, e_X8_maskOf_28, e_X8_maskOf_29, e_X8_maskOf_30, e_X8_maskOf_31, e_X8_maskOf_32, e_X8_maskOf_33, e_X8_maskOf_34, e_X8_maskOf_35, e_X8_maskOf_36, e_X8_maskOf_37, e_X8_maskOf_38, nI_leI, if_f, q_signOf A L hr hp, xbk_i, sr', nx_or, nI_add, nI_eq]
      unfold mskF
      rw [← e]
      by_cases g1 : sgK (rlN l r) (tlN (rlN l r) p) k < 2
      · by_cases g2 : sgK (rlN l r) (tlN (rlN l r) p) k = 1
        · simp [g2]
        · simp [g1, g2, Nat.not_le.mpr g1]
      · have g2 : ¬ sgK (rlN l r) (tlN (rlN l r) p) k = 1 := by omega
        simp [g1, g2, Nat.not_lt.mp g1]
  obtain ⟨w', e⟩ := key 7 0 (0, 0) .null (by omega)
  rw [mskF_eq v (by omega)] at e
  have hc := cwT_lt (rlN l r) (tlN (rlN l r) p)
  have hv := vwT_lt (rlN l r) (tlN (rlN l r) p)
  rw [e]
  simp (disch := first | assumption | omega) only [e_X8_maskOf_39, e_X8_maskOf_40, e_X8_maskOf_41, e_X8_maskOf_42, e_X8_maskOf_43, e_X8_maskOf_44, pk_mul, nI_add]
  rfl
theorem q_doMeet {x y : Nat × Nat} : xc XP d 120 [.int (nI (mk l x)), .int (nI (mk l y))] h = some (some (.int (bI (mtX l x y))), h) := by
  have hx := mk_lt l x
  have hy := mk_lt l y
  rw [n_X8_doMeet]
  simp (disch := first | assumption | omega) only [e_X8_doMeet_0, e_X8_doMeet_1, e_X8_doMeet_2, e_X8_doMeet_3, e_X8_doMeet_4, e_X8_doMeet_5, e_X8_doMeet_6, e_X8_doMeet_7, e_X8_doMeet_8, e_X8_doMeet_9, e_X8_doMeet_10, e_X8_doMeet_11, e_X8_doMeet_12, e_X8_doMeet_13, e_X8_doMeet_14, e_X8_doMeet_15, e_X8_doMeet_16, e_X8_doMeet_17, jdiv, mk_d, nx_xor, nx_and, and4, mk_m, rk_0, rk_1, if_true]
  have hb : (vX l x ^^^ vX l y) &&& cX l x &&& cX l y < 2 ^ 31 := Nat.lt_of_le_of_lt Nat.and_le_right (Nat.lt_trans (cX_lt l y) (by decide))
  simp only [nI_eq hb (show 0 < 2 ^ 31 by decide)]
  unfold mtX
  by_cases g : (vX l x ^^^ vX l y) &&& cX l x &&& cX l y = 0
  · rw [if_neg (by simp [g])]
    unfold vX cX at g
    rw [decide_eq_true g]; rfl
  · rw [if_pos g]
    unfold vX cX at g
    rw [decide_eq_false g]; rfl
theorem q_isFit {x : Nat × Nat} {k : Nat} : xc XP d 121 [.int (nI (mk l x)), .int (nI k)] h = some (some (.int (bI (fitX l x k))), h) := by
  have hx := mk_lt l x
  rw [n_X8_isFit]
  simp (disch := first | assumption | omega) only [e_X8_isFit_0, e_X8_isFit_1, e_X8_isFit_2, e_X8_isFit_3, e_X8_isFit_4, e_X8_isFit_5, e_X8_isFit_6, e_X8_isFit_7, e_X8_isFit_8, e_X8_isFit_9, e_X8_isFit_10, e_X8_isFit_11, e_X8_isFit_12, e_X8_isFit_13, jdiv, mk_d, nx_xor, nx_and, Nat.and_assoc, mk_m, rk_0, rk_1, if_true]
  have hb : (vX l x ^^^ k) &&& cX l x < 2 ^ 31 := Nat.lt_of_le_of_lt Nat.and_le_right (Nat.lt_trans (cX_lt l x) (by decide))
  rw [Nat.xor_comm] at hb ⊢
  simp only [nI_eq hb (show 0 < 2 ^ 31 by decide)]
  unfold fitX
  by_cases g : (k ^^^ vX l x) &&& cX l x = 0
  · rw [if_neg (by simp [g])]
    unfold vX cX at g
    rw [decide_eq_true g]; rfl
  · rw [if_pos g]
    unfold vX cX at g
    rw [decide_eq_false g]; rfl
end Row3R
