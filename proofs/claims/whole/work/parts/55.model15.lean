/-! THE MODEL: blocks, pairs, different rows -/
theorem mk_112 (l : List Rl) (x : Nat × Nat) (a : Nat) : a &&& mk l x &&& 112 = a &&& cX l x &&& 112 := by
  rw [Nat.and_assoc, Nat.and_assoc]
  congr 1
  rw [show (112 : Nat) = 127 &&& 112 by decide, ← Nat.and_assoc, mk_m, ← Nat.and_assoc]
  rw [and_127 (cX_lt l x)]
section Md11R
variable {h : XH} {m : Nat} {cm ca lm ra nu nr mm nm : Int32} {f g : Nat → Int32} {l : List Rl} {σ : Sl} {d : Nat}
theorem q_blocksOnM (M : MdO h m cm ca lm ra nu nr mm nm) (A : h[m + 1]? = some (ia 113 f)) (L : RwL f l) (R : RwS f l σ) (G : h[m + 4]? = some (ia 16 g)) (K : Msk g l σ) {k : Nat} : xc XP d 172 [.ref m, .int (nI k)] h = some (some (.int (nI (bkA l σ k))), h) := by
  have l1 := L.1
  rw [n_X8_blocksOn]
  simp only [e_X8_blocksOn_0, e_X8_blocksOn_1, e_X8_blocksOn_2, e_X8_blocksOn_3]
  have key : ∀ n s a (w : Value), s + n = 16 → a = itr (fun s a => if hfA l σ k s = true then a ||| 2 ^ (s / 4) else a) 0 s → xe XP d 172 (4, [.ref m, .int (nI k), .int (nI a), .int (nI s), w], [], h) = some (some (.int (nI (bkA l σ k))), h) := by
    intro n
    induction n with
    | zero =>
      intro s a w hs ha
      have hs : s = 16 := by omega
      subst hs
      simp (disch := first | assumption | omega) only [e_X8_blocksOn_4, e_X8_blocksOn_5, e_X8_blocksOn_6, e_X8_blocksOn_48, e_X8_blocksOn_49, nI_leI, if_t, Nat.le_refl, if_true, ha]
      rfl
    | succ n ih =>
      intro s a w hs ha
      have i2 := fun w => ih (s + 1) (if hfA l σ k s = true then a ||| 2 ^ (s / 4) else a) w (by omega) (by rw [ha]; rfl)
      have hsh := shl1 (k := s / 4) (by omega)
      have hz : nI a ||| nI 0 = nI a := by rw [nx_or, Nat.or_zero]
      rw [e_X8_blocksOn_4]
      unfold hfA at i2
      cases hx : σ s with
      | none =>
        have q1 := rs_none A R (show s < 16 by omega) hx
        rw [hx] at i2
        simp only [Bool.false_eq_true, if_false] at i2
        simp (disch := first | assumption | omega) only [e_X8_blocksOn_5, e_X8_blocksOn_6, e_X8_blocksOn_7, e_X8_blocksOn_8, e_X8_blocksOn_9, e_X8_blocksOn_10, e_X8_blocksOn_11, e_X8_blocksOn_12, e_X8_blocksOn_13, e_X8_blocksOn_32, e_X8_blocksOn_33, e_X8_blocksOn_34, e_X8_blocksOn_35, e_X8_blocksOn_36, e_X8_blocksOn_37, e_X8_blocksOn_38, e_X8_blocksOn_39, e_X8_blocksOn_40, e_X8_blocksOn_41, e_X8_blocksOn_42, e_X8_blocksOn_43, e_X8_blocksOn_44, e_X8_blocksOn_45, e_X8_blocksOn_46, e_X8_blocksOn_47, nI_leI, if_f, M.f0, Option.bind_some, nI_add, q1, m4_lt0, if_true, hz, i2]
      | some x =>
        obtain ⟨x1, x2, q1, q2⟩ := rs_some A R (show s < 16 by omega) hx
        have q3 := mg_ld G K (show s < 16 by omega)
        rw [hx] at q3 i2
        have q3 : xld h (m + 4) 0 (nI s) = some (nI (mk l x)) := q3
        have hmk := mk_lt l x
        have hb : (vX l x ^^^ k) &&& cX l x &&& 112 < 2 ^ 31 := Nat.lt_of_le_of_lt Nat.and_le_right (by decide)
        simp (disch := first | assumption | omega) only [e_X8_blocksOn_5, e_X8_blocksOn_6, e_X8_blocksOn_7, e_X8_blocksOn_8, e_X8_blocksOn_9, e_X8_blocksOn_10, e_X8_blocksOn_11, e_X8_blocksOn_12, e_X8_blocksOn_13, e_X8_blocksOn_14, e_X8_blocksOn_15, e_X8_blocksOn_16, e_X8_blocksOn_17, e_X8_blocksOn_18, e_X8_blocksOn_19, e_X8_blocksOn_20, e_X8_blocksOn_21, e_X8_blocksOn_22, e_X8_blocksOn_23, e_X8_blocksOn_24, e_X8_blocksOn_25, e_X8_blocksOn_26, e_X8_blocksOn_27, e_X8_blocksOn_28, e_X8_blocksOn_29, e_X8_blocksOn_30, e_X8_blocksOn_31, e_X8_blocksOn_32, e_X8_blocksOn_33, e_X8_blocksOn_34, e_X8_blocksOn_35, e_X8_blocksOn_36, e_X8_blocksOn_37, e_X8_blocksOn_38, e_X8_blocksOn_39, e_X8_blocksOn_40, e_X8_blocksOn_41, e_X8_blocksOn_42, e_X8_blocksOn_43, e_X8_blocksOn_44, e_X8_blocksOn_45, e_X8_blocksOn_46, e_X8_blocksOn_47, nI_leI, if_f, M.f0, M.f5, Option.bind_some, nI_add, q1, nI_lt0, q3, jdiv, mk_d, nx_xor, nx_and, mk_112, hsh, nx_or, nI_eq]
        rw [Nat.xor_comm (vX l x) k]
        by_cases q : (k ^^^ vX l x) &&& cX l x &&& 112 = 0
        · have j2 := i2 (.int (nI 1))
          rw [if_pos (decide_eq_true q)] at j2
          rw [← j2]
          simp [q, show ¬ (1 : Nat) = 0 by decide]
        · have j2 := i2 (.int (nI 0))
          rw [if_neg (by simp [q])] at j2
          rw [← j2]
          simp [q]
  exact key 16 0 0 .null (by omega) rfl
theorem q_pairsM (M : MdO h m cm ca lm ra nu nr mm nm) (A : h[m + 1]? = some (ia 113 f)) (L : RwL f l) (R : RwS f l σ) (G : h[m + 4]? = some (ia 16 g)) (K : Msk g l σ) : xc XP (d + 1) 176 [.ref m] h = some (some (.int (nI (itr (fun a n => n + ct (fun b => decide (a + 1 ≤ b) && prA l σ a b) 16) 0 16))), h) := by
  have l1 := L.1
  rw [n_X8_pairsThatMeet]
  simp only [e_X8_pairsThatMeet_0, e_X8_pairsThatMeet_1, e_X8_pairsThatMeet_2, e_X8_pairsThatMeet_3]
  have inner : ∀ (a c : Nat), a < 16 → ∀ n b e, b + n = 16 → a < b → e = ct (fun b => decide (a + 1 ≤ b) && prA l σ a b) b → xe XP (d + 1) 176 (11, [.ref m, .int (nI (c + e)), .int (nI a), .int (nI b)], [], h) = xe XP (d + 1) 176 (59, [.ref m, .int (nI (c + ct (fun b => decide (a + 1 ≤ b) && prA l σ a b) 16)), .int (nI a), .int (nI 16)], [], h) := by
    intro a c ha n
    induction n with
    | zero =>
      intro b e hb hab he
      have hb : b = 16 := by omega
      subst hb
      simp (disch := first | assumption | omega) only [e_X8_pairsThatMeet_11, e_X8_pairsThatMeet_12, e_X8_pairsThatMeet_13, nI_leI, if_t, Nat.le_refl, if_true, he]
    | succ n ih =>
      intro b e hb hab he
      have i2 := ih (b + 1) (e + (if (decide (a + 1 ≤ b) && prA l σ a b) = true then 1 else 0)) (by omega) (by omega) (by rw [he]; rfl)
      rw [decide_eq_true (show a + 1 ≤ b by omega), Bool.true_and] at i2
      rw [e_X8_pairsThatMeet_11, ← i2]
      unfold prA
      cases hx : σ a with
      | none =>
        have q1 := rs_none A R ha hx
        simp (disch := first | assumption | omega) only [e_X8_pairsThatMeet_12, e_X8_pairsThatMeet_13, e_X8_pairsThatMeet_14, e_X8_pairsThatMeet_15, e_X8_pairsThatMeet_16, e_X8_pairsThatMeet_17, e_X8_pairsThatMeet_18, e_X8_pairsThatMeet_19, e_X8_pairsThatMeet_20, e_X8_pairsThatMeet_21, e_X8_pairsThatMeet_54, e_X8_pairsThatMeet_55, e_X8_pairsThatMeet_56, e_X8_pairsThatMeet_57, e_X8_pairsThatMeet_58, nI_leI, if_f, M.f0, Option.bind_some, nI_add, q1, m4_lt0, if_true, Bool.false_eq_true, if_false, Nat.add_zero]
      | some x =>
        obtain ⟨x1, x2, q1, q2⟩ := rs_some A R ha hx
        cases hy : σ b with
        | none =>
          have p1 := rs_none A R (show b < 16 by omega) hy
          simp (disch := first | assumption | omega) only [e_X8_pairsThatMeet_12, e_X8_pairsThatMeet_13, e_X8_pairsThatMeet_14, e_X8_pairsThatMeet_15, e_X8_pairsThatMeet_16, e_X8_pairsThatMeet_17, e_X8_pairsThatMeet_18, e_X8_pairsThatMeet_19, e_X8_pairsThatMeet_20, e_X8_pairsThatMeet_21, e_X8_pairsThatMeet_22, e_X8_pairsThatMeet_23, e_X8_pairsThatMeet_24, e_X8_pairsThatMeet_25, e_X8_pairsThatMeet_26, e_X8_pairsThatMeet_27, e_X8_pairsThatMeet_28, e_X8_pairsThatMeet_54, e_X8_pairsThatMeet_55, e_X8_pairsThatMeet_56, e_X8_pairsThatMeet_57, e_X8_pairsThatMeet_58, nI_leI, if_f, M.f0, Option.bind_some, nI_add, q1, p1, nI_lt0, m4_lt0, if_true, Bool.false_eq_true, if_false, Nat.add_zero]
        | some y =>
          obtain ⟨y1, y2, p1, p2⟩ := rs_some A R (show b < 16 by omega) hy
          have q3 := mg_ld G K ha
          rw [hx] at q3
          have q3 : xld h (m + 4) 0 (nI a) = some (nI (mk l x)) := q3
          have p3 := mg_ld G K (show b < 16 by omega)
          rw [hy] at p3
          have p3 : xld h (m + 4) 0 (nI b) = some (nI (mk l y)) := p3
          simp (disch := first | assumption | omega) only [e_X8_pairsThatMeet_12, e_X8_pairsThatMeet_13, e_X8_pairsThatMeet_14, e_X8_pairsThatMeet_15, e_X8_pairsThatMeet_16, e_X8_pairsThatMeet_17, e_X8_pairsThatMeet_18, e_X8_pairsThatMeet_19, e_X8_pairsThatMeet_20, e_X8_pairsThatMeet_21, e_X8_pairsThatMeet_22, e_X8_pairsThatMeet_23, e_X8_pairsThatMeet_24, e_X8_pairsThatMeet_25, e_X8_pairsThatMeet_26, e_X8_pairsThatMeet_27, e_X8_pairsThatMeet_28, e_X8_pairsThatMeet_29, e_X8_pairsThatMeet_30, e_X8_pairsThatMeet_31, e_X8_pairsThatMeet_32, e_X8_pairsThatMeet_33, e_X8_pairsThatMeet_34, e_X8_pairsThatMeet_35, e_X8_pairsThatMeet_36, e_X8_pairsThatMeet_37, e_X8_pairsThatMeet_38, e_X8_pairsThatMeet_39, e_X8_pairsThatMeet_40, e_X8_pairsThatMeet_41, e_X8_pairsThatMeet_42, e_X8_pairsThatMeet_43, e_X8_pairsThatMeet_44, e_X8_pairsThatMeet_45, e_X8_pairsThatMeet_46, e_X8_pairsThatMeet_47, e_X8_pairsThatMeet_48, e_X8_pairsThatMeet_49, e_X8_pairsThatMeet_50, e_X8_pairsThatMeet_51, e_X8_pairsThatMeet_52, e_X8_pairsThatMeet_53, e_X8_pairsThatMeet_54, e_X8_pairsThatMeet_55, e_X8_pairsThatMeet_56, e_X8_pairsThatMeet_57, e_X8_pairsThatMeet_58, nI_leI, if_f, M.f0, M.f5, Option.bind_some, nI_add, q1, p1, q3, p3, nI_lt0, nI_eq, q_doMeet, xbk_i, bI_0]
          by_cases e1 : x.1 = y.1
          · simp [e1]
          · by_cases e2 : mtX l x y = true <;> simp [e1, e2, Nat.add_assoc]
  have key := loop_itr (fun a c => xe XP (d + 1) 176 (4, [.ref m, .int (nI c), .int (nI a), .null], [], h)) (fun a n => n + ct (fun b => decide (a + 1 ≤ b) && prA l σ a b) 16) 0 16
  have outer : ∀ n a c (w : Value), a + n = 16 → c = itr (fun a n => n + ct (fun b => decide (a + 1 ≤ b) && prA l σ a b) 16) 0 a → xe XP (d + 1) 176 (4, [.ref m, .int (nI c), .int (nI a), w], [], h) = some (some (.int (nI (itr (fun a n => n + ct (fun b => decide (a + 1 ≤ b) && prA l σ a b) 16) 0 16))), h) := by
    intro n
    induction n with
    | zero =>
      intro a c w ha hc
      have ha : a = 16 := by omega
      subst ha
      simp (disch := first | assumption | omega) only [e_X8_pairsThatMeet_4, e_X8_pairsThatMeet_5, e_X8_pairsThatMeet_6, e_X8_pairsThatMeet_61, e_X8_pairsThatMeet_62, nI_leI, if_t, Nat.le_refl, if_true, hc]
    | succ n ih =>
      intro a c w ha hc
      have i2 := ih (a + 1) (c + ct (fun b => decide (a + 1 ≤ b) && prA l σ a b) 16) (.int (nI 16)) (by omega) (by rw [hc]; rfl)
      have z : ct (fun b => decide (a + 1 ≤ b) && prA l σ a b) (a + 1) = 0 := by
        have : ∀ k, k ≤ a + 1 → ct (fun b => decide (a + 1 ≤ b) && prA l σ a b) k = 0 := by
          intro k
          induction k with
          | zero => intro _; rfl
          | succ k ih2 =>
            intro hk
            show ct (fun b => decide (a + 1 ≤ b) && prA l σ a b) k + (if (decide (a + 1 ≤ k) && prA l σ a k) = true then 1 else 0) = 0
            rw [ih2 (by omega), decide_eq_false (show ¬ a + 1 ≤ k by omega)]
            rfl
        exact this (a + 1) (Nat.le_refl _)
      have j2 := inner a c (by omega) (15 - a) (a + 1) 0 (by omega) (by omega) z.symm
      rw [show c + 0 = c from Nat.add_zero c] at j2
      rw [e_X8_pairsThatMeet_4]
      simp (disch := first | assumption | omega) only [e_X8_pairsThatMeet_5, e_X8_pairsThatMeet_6, e_X8_pairsThatMeet_7, e_X8_pairsThatMeet_8, e_X8_pairsThatMeet_9, e_X8_pairsThatMeet_10, e_X8_pairsThatMeet_59, e_X8_pairsThatMeet_60, nI_leI, if_f, if_false, nI_add, j2, i2]
  clear key
  exact outer 16 0 0 .null (by omega) rfl
end Md11R
