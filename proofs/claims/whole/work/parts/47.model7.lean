/-! THE MODEL: a move, the place of a row -/
theorem inO_eq {l : List Rl} {σ : Sl} {t : Nat} {y : Nat × Nat} {but : Option Nat} (hd : dst l) (hσ : ∀ s z, s < 16 → σ s = some z → z.1 < l.length) (hy : y.1 < l.length) (ht16 : t < 16) (ht : σ t = none) (hbut : ∀ j z, but = some j → σ j = some z → z.1 = y.1) : inO l σ t y but = (decide (flA l σ y ≤ t) && decide (t < ceA l σ y)) := by
  have hin : inO l σ t y but = true ↔ ∀ s, s < 16 → cnO l σ t y but s = true := by
    unfold inO
    rw [Option.isNone_iff_eq_none, fup_none]
    constructor
    · intro a s hs; have := a s (by omega) (by omega); simpa using this
    · intro a s _ hs; rw [a s (by omega)]; rfl
  rw [Bool.eq_iff_iff, hin, Bool.and_eq_true, decide_eq_true_eq, decide_eq_true_eq]
  have hdiff : ∀ z : Nat × Nat, rkX l z ≠ rkX l y → z.1 ≠ y.1 := by
    intro z h1 h2
    apply h1
    unfold rkX
    rw [h2]
  constructor
  · intro a
    constructor
    · by_cases g : 0 < flA l σ y
      · have hb := flA_at g
        have hle := flA_le l σ y
        have hc := a (flA l σ y - 1) (by omega)
        unfold blA at hb
        unfold cnO at hc
        cases hx : σ (flA l σ y - 1) with
        | none => rw [hx] at hb; cases hb
        | some z =>
          rw [hx] at hb hc
          simp only [Bool.and_eq_true, decide_eq_true_eq] at hb
          have hz := hdiff z (by omega)
          have hne : ¬ flA l σ y - 1 = t := by intro e; rw [e, ht] at hx; cases hx
          dsimp only at hc
          rw [if_neg (by
            rintro (q | q | q | q)
            · exact hz (hbut _ _ q.symm hx)
            · exact hne q
            · exact hz q
            · rw [mtX_symm, hb.2] at q; cases q)] at hc
          simp only [decide_eq_true_eq] at hc
          rw [decide_eq_false (show ¬ rkX l y < rkX l z by omega)] at hc
          have hc := of_decide_eq_false hc.symm
          omega
      · omega
    · by_cases g : ceA l σ y < 16
      · have hb := ceA_at g
        have hc := a (ceA l σ y) g
        unfold abA at hb
        unfold cnO at hc
        cases hx : σ (ceA l σ y) with
        | none => rw [hx] at hb; cases hb
        | some z =>
          rw [hx] at hb hc
          simp only [Bool.and_eq_true, decide_eq_true_eq] at hb
          have hz := hdiff z (by omega)
          have hne : ¬ ceA l σ y = t := by intro e; rw [e, ht] at hx; cases hx
          dsimp only at hc
          rw [if_neg (by
            rintro (q | q | q | q)
            · exact hz (hbut _ _ q.symm hx)
            · exact hne q
            · exact hz q
            · rw [mtX_symm, hb.2] at q; cases q)] at hc
          simp only [decide_eq_true_eq] at hc
          rw [decide_eq_true hb.1] at hc
          exact of_decide_eq_true hc.symm
      · omega
  · rintro ⟨a1, a2⟩ s hs
    unfold cnO
    cases hx : σ s with
    | none => rfl
    | some z =>
      simp only
      split
      · rfl
      · next hno =>
        have h3 : ¬ z.1 = y.1 := fun q => hno (Or.inr (Or.inr (Or.inl q)))
        have h4 : mtX l y z = true := by
          cases q : mtX l y z with
          | true => rfl
          | false => exact absurd (Or.inr (Or.inr (Or.inr q))) hno
        have hz1 := hσ s z hs hx
        have hrk : rkX l z ≠ rkX l y := fun q => h3 (hd _ _ hz1 hy q)
        by_cases g : rkX l y < rkX l z
        · have hab : abA l σ y s = true := by unfold abA; rw [hx]; simp only [Bool.and_eq_true, decide_eq_true_eq]; exact ⟨g, by rw [mtX_symm]; exact h4⟩
          have := ceA_leOf hs hab
          rw [decide_eq_true g, decide_eq_true (show t < s by omega)]
          rfl
        · have hbl : blA l σ y s = true := by unfold blA; rw [hx]; simp only [Bool.and_eq_true, decide_eq_true_eq]; exact ⟨by omega, by rw [mtX_symm]; exact h4⟩
          have := flA_ge hs hbl
          rw [decide_eq_false g, decide_eq_false (show ¬ t < s by omega)]
          rfl
theorem fup_cut {p : Nat → Bool} {a b : Nat} (hb : b ≤ 16) : fup (fun t => p t && (decide (a ≤ t) && decide (t < b))) 0 16 = fup p a (b - a) := by
  cases hq : fup p a (b - a) with
  | none =>
    refine fup_none.mpr (fun j _ _ => ?_)
    by_cases g : a ≤ j ∧ j < b
    · rw [fup_none.mp hq j g.1 (by omega)]; rfl
    · by_cases g1 : a ≤ j
      · rw [decide_eq_false (show ¬ j < b by omega)]; simp
      · rw [decide_eq_false g1]; simp
  | some s =>
    obtain ⟨s1, s2, s3, s4⟩ := fup_some.mp hq
    refine fup_some.mpr ⟨by omega, by omega, ?_, fun j _ hj => ?_⟩
    · rw [s3, decide_eq_true s1, decide_eq_true (show s < b by omega)]; rfl
    · by_cases g1 : a ≤ j
      · rw [s4 j g1 hj]; rfl
      · rw [decide_eq_false g1]; simp
/-- the model's table, with its masks -/
def Mb (h : XH) (m : Nat) (cm ca lm ra nu nr mm nm : Int32) (l : List Rl) (σ : Sl) : Prop := MdO h m cm ca lm ra nu nr mm nm ∧ ∃ f g, h[m + 1]? = some (ia 113 f) ∧ RwL f l ∧ RwS f l σ ∧ h[m + 4]? = some (ia 16 g) ∧ Msk g l σ
def NM (m i : Nat) : Prop := i = m + 1 ∨ i = m + 4
section Md3R
variable {h : XH} {m : Nat} {cm ca lm ra nu nr mm nm : Int32} {l : List Rl} {σ : Sl} {d : Nat}
theorem Mb.in (B : Mb h m cm ca lm ra nu nr mm nm l σ) {s : Nat} {z : Nat × Nat} (hs : s < 16) (hx : σ s = some z) : z.1 < l.length ∧ z.2 < rwR (rlN l z.1) := by
  obtain ⟨M, f, g, A, L, R, G, K⟩ := B
  obtain ⟨x1, x2, -, -⟩ := rs_some A R hs hx
  exact ⟨x1, x2⟩
theorem q_mayMove (B : Mb h m cm ca lm ra nu nr mm nm l σ) (hd : dst l) {f t : Nat} (hf : f < 16) (ht : t < 16) : xc XP (d + 2) 143 [.ref m, .int (nI f), .int (nI t)] h = some (some (.int (bI (opA l σ f t))), h) := by
  have hin := fun s z (h1 : s < 16) (h2 : σ s = some z) => (B.in h1 h2).1
  obtain ⟨M, fn, g, A, L, R, G, K⟩ := B
  have c0 := M.k
  have l1 := L.1
  rw [n_X8_mayMove]
  unfold opA
  cases hx : σ f with
  | none =>
    have q1 := rs_none A R hf hx
    simp (disch := first | assumption | omega) only [e_X8_mayMove_0, e_X8_mayMove_1, e_X8_mayMove_2, e_X8_mayMove_3, e_X8_mayMove_4, e_X8_mayMove_5, e_X8_mayMove_6, e_X8_mayMove_31, e_X8_mayMove_32, M.f0, Option.bind_some, nI_add, q1, m4_lt0, if_true, rk_0]
    rfl
  | some x =>
    obtain ⟨x1, x2, q1, q2⟩ := rs_some A R hf hx
    cases hy : σ t with
    | some y =>
      obtain ⟨y1, y2, p1, p2⟩ := rs_some A R ht hy
      simp (disch := first | assumption | omega) only [e_X8_mayMove_0, e_X8_mayMove_1, e_X8_mayMove_2, e_X8_mayMove_3, e_X8_mayMove_4, e_X8_mayMove_5, e_X8_mayMove_6, e_X8_mayMove_7, e_X8_mayMove_8, e_X8_mayMove_9, e_X8_mayMove_10, e_X8_mayMove_11, e_X8_mayMove_12, e_X8_mayMove_13, e_X8_mayMove_31, e_X8_mayMove_32, M.f0, Option.bind_some, nI_add, q1, p1, nI_lt0, nI_ge0, if_f, if_t, rk_0, if_true, em_some hy, Bool.false_and]
      rfl
    | none =>
      have p1 := rs_none A R ht hy
      have q3 := mg_ld G K hf
      rw [hx] at q3
      have q3 : xld h (m + 4) 0 (nI f) = some (nI (mk l x)) := q3
      have q4 := q_inOrder (d := d) M A L R G K (t := t) (y := x) (but := some f) ht x1 (fun j hj => by cases hj; exact hf)
      rw [inO_eq hd hin x1 ht hy (fun j z hj hz => by cases hj; rw [hx] at hz; cases hz; rfl)] at q4
      have q4 : xc XP (d + 1) 142 [.ref m, .int (nI t), .int (nI x.1), .int (nI (mk l x)), .int (nI f)] h = some (some (.int (bI (decide (flA l σ x ≤ t) && decide (t < ceA l σ x)))), h) := q4
      simp (disch := first | assumption | omega) only [e_X8_mayMove_0, e_X8_mayMove_1, e_X8_mayMove_2, e_X8_mayMove_3, e_X8_mayMove_4, e_X8_mayMove_5, e_X8_mayMove_6, e_X8_mayMove_7, e_X8_mayMove_8, e_X8_mayMove_9, e_X8_mayMove_10, e_X8_mayMove_11, e_X8_mayMove_12, e_X8_mayMove_13, e_X8_mayMove_14, e_X8_mayMove_15, e_X8_mayMove_16, e_X8_mayMove_17, e_X8_mayMove_18, e_X8_mayMove_19, e_X8_mayMove_20, e_X8_mayMove_21, e_X8_mayMove_22, e_X8_mayMove_23, e_X8_mayMove_24, e_X8_mayMove_25, e_X8_mayMove_26, e_X8_mayMove_27, e_X8_mayMove_28, e_X8_mayMove_29, e_X8_mayMove_30, e_X8_mayMove_31, e_X8_mayMove_32, M.f0, M.f5, Option.bind_some, nI_add, q1, p1, q3, nI_lt0, m4_ge0, if_f, if_false, q4, xbk_i, bI_0, rk_0, rk_1, if_true, em_none hy, Bool.true_and]
      cases (decide (flA l σ x ≤ t) && decide (t < ceA l σ x)) <;> rfl
theorem q_placeFor (B : Mb h m cm ca lm ra nu nr mm nm l σ) (hd : dst l) {y : Nat × Nat} (hy : y.1 < l.length) : xc XP (d + 2) 145 [.ref m, .int (nI y.1), .int (nI (mk l y))] h = some (some (.int (oI (loA l σ y))), h) := by
  have hin := fun s z (h1 : s < 16) (h2 : σ s = some z) => (B.in h1 h2).1
  obtain ⟨M, fn, g, A, L, R, G, K⟩ := B
  have c0 := M.k
  have l1 := L.1
  rw [n_X8_placeFor]
  simp only [e_X8_placeFor_0, e_X8_placeFor_1]
  have key := loop_fup (fun t => xe XP (d + 2) 145 (2, [.ref m, .int (nI y.1), .int (nI (mk l y)), .int (nI t)], [], h)) (fun t => emA σ t && (decide (flA l σ y ≤ t) && decide (t < ceA l σ y))) (fun s => some (some (.int (nI s)), h)) 16 (by
    intro t ht
    rw [e_X8_placeFor_2]
    cases hx : σ t with
    | some z =>
      obtain ⟨y1, y2, p1, p2⟩ := rs_some A R ht hx
      simp (disch := first | assumption | omega) only [e_X8_placeFor_3, e_X8_placeFor_4, e_X8_placeFor_5, e_X8_placeFor_6, e_X8_placeFor_7, e_X8_placeFor_8, e_X8_placeFor_9, e_X8_placeFor_10, e_X8_placeFor_11, e_X8_placeFor_21, e_X8_placeFor_22, nI_leI, if_f, M.f0, Option.bind_some, nI_add, p1, nI_ge0, if_t, if_true, em_some hx, Bool.false_and, Bool.false_eq_true, if_false]
    | none =>
      have p1 := rs_none A R ht hx
      have q4 := q_inOrder (d := d) M A L R G K (t := t) (y := y) (but := none) ht hy (fun j hj => by cases hj)
      rw [inO_eq hd hin hy ht hx (fun j z hj hz => by cases hj), oI_none] at q4
      simp (disch := first | assumption | omega) only [e_X8_placeFor_3, e_X8_placeFor_4, e_X8_placeFor_5, e_X8_placeFor_6, e_X8_placeFor_7, e_X8_placeFor_8, e_X8_placeFor_9, e_X8_placeFor_10, e_X8_placeFor_11, e_X8_placeFor_12, e_X8_placeFor_13, e_X8_placeFor_14, e_X8_placeFor_15, e_X8_placeFor_16, e_X8_placeFor_17, e_X8_placeFor_18, e_X8_placeFor_19, e_X8_placeFor_20, e_X8_placeFor_21, e_X8_placeFor_22, nI_leI, if_f, M.f0, Option.bind_some, nI_add, p1, m4_ge0, if_false, q4, xbk_i, bI_0, em_none hx, Bool.true_and]
      by_cases q : (decide (flA l σ y ≤ t) && decide (t < ceA l σ y)) = true <;> simp [q]) 16 0 rfl
  rw [key, fup_cut (ceA_le l σ y)]
  unfold loA
  cases fup (emA σ) (flA l σ y) (ceA l σ y - flA l σ y) with
  | some s => rfl
  | none =>
    simp (disch := first | assumption | omega) only [e_X8_placeFor_2, e_X8_placeFor_3, e_X8_placeFor_4, e_X8_placeFor_23, e_X8_placeFor_24, nI_leI, if_t, Nat.le_refl, if_true]
    rfl
end Md3R
