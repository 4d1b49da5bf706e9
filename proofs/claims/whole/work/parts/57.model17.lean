/-! THE MODEL: a rule is told to a row; a row is cleared -/
section Row5R
variable {h : XH} {a : Nat} {f : Nat → Int32} {l : List Rl} {d : Nat}
theorem q_comes (A : h[a]? = some (ia 113 f)) (L : RwL f l) {q : Rl} (v : vr q) (hl : l.length < 16) : ∃ h' f', xc XP d 114 [.ref a, .int (nI q.1), .int (nI q.2.1), .int (nI q.2.2.1), .int (nI q.2.2.2.1), .int (nI q.2.2.2.2)] h = some (none, h') ∧ h'[a]? = some (ia 113 f') ∧ RwL f' (l ++ [q]) ∧ (∀ k, 81 ≤ k → f' k = f k) ∧ Same h h' a (a + 1) := by
  obtain ⟨l1, l2, l3, l4⟩ := L
  have ld0 := ra_ld A 0 (by omega)
  rw [l3] at ld0
  obtain ⟨h1, e1, A1, s1⟩ := ia_w A (by decide) (show 1 + l.length < 113 by omega) (nI q.1)
  obtain ⟨h2, e2, A2, s2⟩ := ia_w A1 (by decide) (show 17 + l.length < 113 by omega) (nI q.2.1)
  obtain ⟨h3, e3, A3, s3⟩ := ia_w A2 (by decide) (show 33 + l.length < 113 by omega) (nI q.2.2.1)
  obtain ⟨h4, e4, A4, s4⟩ := ia_w A3 (by decide) (show 49 + l.length < 113 by omega) (nI q.2.2.2.1)
  obtain ⟨h5, e5, A5, s5⟩ := ia_w A4 (by decide) (show 65 + l.length < 113 by omega) (nI q.2.2.2.2)
  have ld5 := ra_ld A5 0 (by omega)
  rw [upd_n (by omega), upd_n (by omega), upd_n (by omega), upd_n (by omega), upd_n (by omega), l3] at ld5
  obtain ⟨h6, e6, A6, s6⟩ := ia_w A5 (by decide) (show 0 < 113 by omega) (nI (l.length + 1))
  refine ⟨h6, _, ?_, A6, ⟨by simp; omega, ?_, ?_, ?_⟩, ?_, ((((s1.trans s2).trans s3).trans s4).trans s5).trans s6⟩
  · rw [n_X8_comes]
    simp (disch := first | assumption | omega) only [e_X8_comes_0, e_X8_comes_1, e_X8_comes_2, e_X8_comes_3, e_X8_comes_4, e_X8_comes_5, e_X8_comes_6, e_X8_comes_7, e_X8_comes_8, e_X8_comes_9, e_X8_comes_10, e_X8_comes_11, e_X8_comes_12, e_X8_comes_13, e_X8_comes_14, e_X8_comes_15, e_X8_comes_16, e_X8_comes_17, e_X8_comes_18, e_X8_comes_19, e_X8_comes_20, e_X8_comes_21, e_X8_comes_22, e_X8_comes_23, e_X8_comes_24, e_X8_comes_25, e_X8_comes_26, e_X8_comes_27, e_X8_comes_28, e_X8_comes_29, e_X8_comes_30, e_X8_comes_31, e_X8_comes_32, e_X8_comes_33, e_X8_comes_34, e_X8_comes_35, e_X8_comes_36, e_X8_comes_37, e_X8_comes_38, e_X8_comes_39, e_X8_comes_40, e_X8_comes_41, ld0, Option.bind_some, nI_add, e1, e2, e3, e4, e5, ld5, e6]
  · intro y hy
    rcases List.mem_append.mp hy with hy | hy
    · exact l2 y hy
    · rw [List.mem_singleton.mp hy]; exact v
  · rw [upd_s]; simp
  · intro j hj
    simp at hj
    by_cases g : j < l.length
    · rw [rlN_app g]
      have r := l4 j g
      rw [upd_n (by omega), upd_n (by omega), upd_n (by omega), upd_n (by omega), upd_n (by omega), upd_n (by omega)]
      rw [upd_n (by omega), upd_n (by omega), upd_n (by omega), upd_n (by omega), upd_n (by omega), upd_n (by omega)]
      rw [upd_n (by omega), upd_n (by omega), upd_n (by omega), upd_n (by omega), upd_n (by omega), upd_n (by omega)]
      rw [upd_n (by omega), upd_n (by omega), upd_n (by omega), upd_n (by omega), upd_n (by omega), upd_n (by omega)]
      rw [upd_n (by omega), upd_n (by omega), upd_n (by omega), upd_n (by omega), upd_n (by omega), upd_n (by omega)]
      exact r
    · have hj : j = l.length := by omega
      subst hj
      rw [rlN_last]
      refine ⟨?_, ?_, ?_, ?_, ?_⟩
      · rw [upd_n (by omega), upd_n (by omega), upd_n (by omega), upd_n (by omega), upd_n (by omega), upd_s]
      · rw [upd_n (by omega), upd_n (by omega), upd_n (by omega), upd_n (by omega), upd_s]
      · rw [upd_n (by omega), upd_n (by omega), upd_n (by omega), upd_s]
      · rw [upd_n (by omega), upd_n (by omega), upd_s]
      · rw [upd_n (by omega), upd_s]
  · intro k hk
    rw [upd_n (by omega), upd_n (by omega), upd_n (by omega), upd_n (by omega), upd_n (by omega), upd_n (by omega)]
theorem q_clears (A : h[a]? = some (ia 113 f)) : ∃ h' f', xc XP (d + 1) 113 [.ref a] h = some (none, h') ∧ h'[a]? = some (ia 113 f') ∧ RwL f' [] ∧ RwS f' [] (fun _ => none) ∧ Same h h' a (a + 1) := by
  rw [n_X8_clears]
  simp only [e_X8_clears_0, e_X8_clears_1]
  have key : ∀ n k (h1 : XH) (f1 : Nat → Int32), k + n = 113 → h1[a]? = some (ia 113 f1) → (∀ j, j < k → f1 j = if 81 ≤ j ∧ j ≤ 96 then -4 else nI 0) → Same h h1 a (a + 1) → ∃ h' f', xe XP (d + 1) 113 (2, [.ref a, .int (nI k)], [], h1) = some (none, h') ∧ h'[a]? = some (ia 113 f') ∧ (∀ j, j < 113 → f' j = if 81 ≤ j ∧ j ≤ 96 then -4 else nI 0) ∧ Same h h' a (a + 1) := by
    intro n
    induction n with
    | zero =>
      intro k h1 f1 hk A1 K1 s1
      have hk : k = 113 := by omega
      subst hk
      refine ⟨h1, f1, ?_, A1, K1, s1⟩
      simp (disch := first | assumption | omega) only [e_X8_clears_2, e_X8_clears_3, e_X8_clears_4, e_X8_clears_18, nI_leI, if_t, Nat.le_refl, if_true]
    | succ n ih =>
      intro k h1 f1 hk A1 K1 s1
      obtain ⟨h2, e2, A2, s2⟩ := ia_w A1 (by decide) (show k < 113 by omega) (if 81 ≤ k ∧ k ≤ 96 then -4 else nI 0)
      obtain ⟨h', f', e, r⟩ := ih (k + 1) h2 _ (by omega) A2 (fun j hj => by
        by_cases q : j = k
        · rw [q]; exact upd_s
        · rw [upd_n q]; exact K1 j (by omega)) (s1.trans s2)
      refine ⟨h', f', ?_, r⟩
      have hin : decide (nI 81 ≤ nI k ∧ nI k ≤ nI 96) = decide (81 ≤ k ∧ k ≤ 96) := by
        apply decide_eq_decide.mpr
        rw [nI_leI (by omega) (by omega), nI_leI (by omega) (by omega)]
      rw [e_X8_clears_2]
      by_cases q : 81 ≤ k ∧ k ≤ 96
      · rw [if_pos q] at e2
        simp (disch := first | assumption | omega) only [e_X8_clears_3, e_X8_clears_4, e_X8_clears_5, e_X8_clears_6, e_X8_clears_7, e_X8_clears_8, e_X8_clears_9, e_X8_clears_10, e_X8_clears_11, e_X8_clears_12, e_X8_clears_13, e_X8_clears_14, e_X8_clears_15, e_X8_clears_16, e_X8_clears_17, nI_leI, if_f, q_in, hin, decide_eq_true q, xbk_i, bI_0, Bool.true_eq_false, if_false, e2, Option.bind_some, nI_add, e]
      · rw [if_neg q] at e2
        simp (disch := first | assumption | omega) only [e_X8_clears_3, e_X8_clears_4, e_X8_clears_5, e_X8_clears_6, e_X8_clears_7, e_X8_clears_8, e_X8_clears_9, e_X8_clears_10, e_X8_clears_11, e_X8_clears_12, e_X8_clears_13, e_X8_clears_14, e_X8_clears_15, e_X8_clears_16, e_X8_clears_17, nI_leI, if_f, q_in, hin, decide_eq_false q, xbk_i, bI_0, if_true, if_false, e2, Option.bind_some, nI_add, e]
  obtain ⟨h', f', e, A', K', s'⟩ := key 113 0 h f (by omega) A (fun j hj => absurd hj (by omega)) (Same.refl _ _ _)
  refine ⟨h', f', e, A', ⟨by simp, by simp, ?_, fun j hj => absurd hj (by simp)⟩, fun s hs => ?_, s'⟩
  · rw [K' 0 (by omega), if_neg (by omega)]; rfl
  · show f' (81 + s) = -4
    rw [K' (81 + s) (by omega), if_pos (by omega)]
end Row5R
