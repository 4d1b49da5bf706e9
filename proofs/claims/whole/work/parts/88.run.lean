/-! THE LAW: its run -/
section RunR
variable {d n : Nat} {f : Nat → Int32}
theorem law_step {h : XH} {S : CS} (W : LW h n f S) {i : Nat} (hi6 : i + 6 ≤ n) (hn : n < 2 ^ 31) (v : Int32) : ∃ h' S', xe XP (d + 15) 180 (xsw [22, 39, 46, 53, 60, 117, 134, 141, 148, 175, 182, 209, 256, 283, 310, 337, 364, 391, 418, 435] 0 452 v, [.ref 0, .ref 3, .ref 113, .int (nI i)], [], h) = xe XP (d + 15) 180 (452, [.ref 0, .ref 3, .ref 113, .int (nI i)], [], h') ∧ LW h' n f S' := by
  by_cases v0 : v = nI 0
  · subst v0
    rw [show xsw [22, 39, 46, 53, 60, 117, 134, 141, 148, 175, 182, 209, 256, 283, 310, 337, 364, 391, 418, 435] 0 452 (nI 0) = 22 by decide]
    exact law_write W hi6 hn
  by_cases v1 : v = nI 1
  · subst v1
    rw [show xsw [22, 39, 46, 53, 60, 117, 134, 141, 148, 175, 182, 209, 256, 283, 310, 337, 364, 391, 418, 435] 0 452 (nI 1) = 39 by decide]
    exact law_wipe W hi6 hn
  by_cases v2 : v = nI 2
  · subst v2
    rw [show xsw [22, 39, 46, 53, 60, 117, 134, 141, 148, 175, 182, 209, 256, 283, 310, 337, 364, 391, 418, 435] 0 452 (nI 2) = 46 by decide]
    exact law_fault W hi6 hn
  by_cases v3 : v = nI 3
  · subst v3
    rw [show xsw [22, 39, 46, 53, 60, 117, 134, 141, 148, 175, 182, 209, 256, 283, 310, 337, 364, 391, 418, 435] 0 452 (nI 3) = 53 by decide]
    exact law_lay W hi6 hn
  by_cases v4 : v = nI 4
  · subst v4
    rw [show xsw [22, 39, 46, 53, 60, 117, 134, 141, 148, 175, 182, 209, 256, 283, 310, 337, 364, 391, 418, 435] 0 452 (nI 4) = 60 by decide]
    exact law_add W hi6 hn
  by_cases v5 : v = nI 5
  · subst v5
    rw [show xsw [22, 39, 46, 53, 60, 117, 134, 141, 148, 175, 182, 209, 256, 283, 310, 337, 364, 391, 418, 435] 0 452 (nI 5) = 117 by decide]
    exact law_drop W hi6 hn
  by_cases v6 : v = nI 6
  · subst v6
    rw [show xsw [22, 39, 46, 53, 60, 117, 134, 141, 148, 175, 182, 209, 256, 283, 310, 337, 364, 391, 418, 435] 0 452 (nI 6) = 134 by decide]
    exact law_purge W hi6 hn
  by_cases v7 : v = nI 7
  · subst v7
    rw [show xsw [22, 39, 46, 53, 60, 117, 134, 141, 148, 175, 182, 209, 256, 283, 310, 337, 364, 391, 418, 435] 0 452 (nI 7) = 141 by decide]
    exact law_pack W hi6 hn
  by_cases v8 : v = nI 8
  · subst v8
    rw [show xsw [22, 39, 46, 53, 60, 117, 134, 141, 148, 175, 182, 209, 256, 283, 310, 337, 364, 391, 418, 435] 0 452 (nI 8) = 148 by decide]
    exact law_move W hi6 hn
  by_cases v9 : v = nI 9
  · subst v9
    rw [show xsw [22, 39, 46, 53, 60, 117, 134, 141, 148, 175, 182, 209, 256, 283, 310, 337, 364, 391, 418, 435] 0 452 (nI 9) = 175 by decide]
    exact law_undo W hi6 hn
  by_cases v10 : v = nI 10
  · subst v10
    rw [show xsw [22, 39, 46, 53, 60, 117, 134, 141, 148, 175, 182, 209, 256, 283, 310, 337, 364, 391, 418, 435] 0 452 (nI 10) = 182 by decide]
    exact law_rule W hi6 hn
  by_cases v11 : v = nI 11
  · subst v11
    rw [show xsw [22, 39, 46, 53, 60, 117, 134, 141, 148, 175, 182, 209, 256, 283, 310, 337, 364, 391, 418, 435] 0 452 (nI 11) = 209 by decide]
    exact law_would W hi6 hn
  by_cases v12 : v = nI 12
  · subst v12
    rw [show xsw [22, 39, 46, 53, 60, 117, 134, 141, 148, 175, 182, 209, 256, 283, 310, 337, 364, 391, 418, 435] 0 452 (nI 12) = 256 by decide]
    exact law_moved W hi6 hn
  by_cases v13 : v = nI 13
  · subst v13
    rw [show xsw [22, 39, 46, 53, 60, 117, 134, 141, 148, 175, 182, 209, 256, 283, 310, 337, 364, 391, 418, 435] 0 452 (nI 13) = 283 by decide]
    exact law_slot W hi6 hn
  by_cases v14 : v = nI 14
  · subst v14
    rw [show xsw [22, 39, 46, 53, 60, 117, 134, 141, 148, 175, 182, 209, 256, 283, 310, 337, 364, 391, 418, 435] 0 452 (nI 14) = 310 by decide]
    exact law_reach W hi6 hn
  by_cases v15 : v = nI 15
  · subst v15
    rw [show xsw [22, 39, 46, 53, 60, 117, 134, 141, 148, 175, 182, 209, 256, 283, 310, 337, 364, 391, 418, 435] 0 452 (nI 15) = 337 by decide]
    exact law_meet W hi6 hn
  by_cases v16 : v = nI 16
  · subst v16
    rw [show xsw [22, 39, 46, 53, 60, 117, 134, 141, 148, 175, 182, 209, 256, 283, 310, 337, 364, 391, 418, 435] 0 452 (nI 16) = 364 by decide]
    exact law_join W hi6 hn
  by_cases v17 : v = nI 17
  · subst v17
    rw [show xsw [22, 39, 46, 53, 60, 117, 134, 141, 148, 175, 182, 209, 256, 283, 310, 337, 364, 391, 418, 435] 0 452 (nI 17) = 391 by decide]
    exact law_key W hi6 hn
  by_cases v18 : v = nI 18
  · subst v18
    rw [show xsw [22, 39, 46, 53, 60, 117, 134, 141, 148, 175, 182, 209, 256, 283, 310, 337, 364, 391, 418, 435] 0 452 (nI 18) = 418 by decide]
    exact law_keys W hi6 hn
  by_cases v19 : v = nI 19
  · subst v19
    rw [show xsw [22, 39, 46, 53, 60, 117, 134, 141, 148, 175, 182, 209, 256, 283, 310, 337, 364, 391, 418, 435] 0 452 (nI 19) = 435 by decide]
    exact law_count W hi6 hn
  rw [show xsw [22, 39, 46, 53, 60, 117, 134, 141, 148, 175, 182, 209, 256, 283, 310, 337, 364, 391, 418, 435] 0 452 v = 452 by simp only [xsw, v0, v1, v2, v3, v4, v5, v6, v7, v8, v9, v10, v11, v12, v13, v14, v15, v16, v17, v18, v19, if_false]]
  exact ⟨h, S, rfl, W⟩
theorem sub6 {i n : Nat} (hi : i ≤ n) (hn : n < 2 ^ 31) : (nI n - nI 6 < nI i) ↔ n < i + 6 := by
  by_cases g : 6 ≤ n
  · rw [pk_sub g, nI_ltI (by omega) (by omega)]
    omega
  · constructor
    · intro _; omega
    · intro _
      have hneg : nI n - nI 6 < nI 0 := by
        rcases (show n = 0 ∨ n = 1 ∨ n = 2 ∨ n = 3 ∨ n = 4 ∨ n = 5 by omega) with e | e | e | e | e | e <;> subst e <;> decide
      exact Int32.lt_of_lt_of_le hneg (nI_ge0 (by omega))
theorem law_run (hn : n < 2 ^ 31) : ∀ (k i : Nat) (h : XH) (S : CS), i ≤ n → n < i + 6 * (k + 1) → LW h n f S → ∃ h' S', xe XP (d + 15) 180 (10, [.ref 0, .ref 3, .ref 113, .int (nI i)], [], h) = some (some (.int (nI 1)), h') ∧ LW h' n f S' := by
  intro k
  induction k with
  | zero =>
    intro i h S hi hk W
    have w0 : h[0]? = some (.inr (.inl (3, n, f))) := W.1 0 (by omega)
    have ea : xar h 0 3 = some (n, f) := by unfold xar; rw [w0]; rfl
    have hlt : nI n - nI 6 < nI i := (sub6 hi hn).mpr (by omega)
    refine ⟨h, S, ?_, W⟩
    simp (disch := first | assumption | omega) only [e_L_law_10, e_L_law_11, e_L_law_12, e_L_law_13, e_L_law_14, e_L_law_15, e_L_law_454, e_L_law_455, ea, Option.bind_some, hlt, if_true, rk_1]
  | succ k ih =>
    intro i h S hi hk W
    have w0 : h[0]? = some (.inr (.inl (3, n, f))) := W.1 0 (by omega)
    have ea : xar h 0 3 = some (n, f) := by unfold xar; rw [w0]; rfl
    by_cases g : n < i + 6
    · have hlt : nI n - nI 6 < nI i := (sub6 hi hn).mpr g
      refine ⟨h, S, ?_, W⟩
      simp (disch := first | assumption | omega) only [e_L_law_10, e_L_law_11, e_L_law_12, e_L_law_13, e_L_law_14, e_L_law_15, e_L_law_454, e_L_law_455, ea, Option.bind_some, hlt, if_true, rk_1]
    · have hlt : ¬ nI n - nI 6 < nI i := fun q => g ((sub6 hi hn).mp q)
      have x0 := xld_sc w0 hn (k := i) (by omega)
      obtain ⟨h1, S1', e1, W1⟩ := law_step (d := d) W (i := i) (by omega) hn (f i &&& nI 31)
      obtain ⟨h2, S2, e2, W2⟩ := ih (i + 6) h1 S1' (by omega) (by omega) W1
      refine ⟨h2, S2, ?_, W2⟩
      rw [e_L_law_10]
      simp (disch := first | assumption | omega) only [e_L_law_11, e_L_law_12, e_L_law_13, e_L_law_14, e_L_law_15, e_L_law_16, e_L_law_17, e_L_law_18, e_L_law_19, e_L_law_20, e_L_law_21, ea, Option.bind_some, hlt, if_false, x0, e1]
      simp (disch := first | assumption | omega) only [e_L_law_452, e_L_law_453, nI_add, e2]
theorem si_1 : SI S1 := by
  have hv := rdS_v (tx := fx) (by decide) 17 0 [] (by simp) (by intro i j hi; simp at hi) (by simp) (by omega)
  rw [fx_read] at hv
  exact ⟨by show 0 < 5; omega, by show 0 ≤ 5; omega, by show 0 ≤ 200; omega, pk_inv hv.2.2 hv.1 hv.2.1 (by decide), fun j hj => absurd hj (Nat.not_lt_zero j)⟩
theorem law_all (hn : n < 2 ^ 31) : ∃ h' S', xc XP (d + 15) 180 [.ref 0] (B3 n f) = some (some (.int (nI 1)), h') ∧ LW h' n f S' := by
  obtain ⟨h1, e1, K1, l1', o1⟩ := q_init7 (d := d) (c0 := .inr (.inl (3, n, f)))
  obtain ⟨h2, e2, D2, l2, o2⟩ := q_init8 (d := d) (p := h1) l1'
  have K2 : Cr (h1 ++ [.inl (8, [.null, .null, .int 0, .int 0, .null, .null, .null, .int 0, .int 0, .int 0, .int 0, .null, .null, .int 0, .null, .null, .int 0, .null, .null, .null])]) 3 S1 := K1.gro (Gro.app _ _)
  have K3 : Cr h2 3 S1 := by
    have g : Gro h1 h2 := fun i c e => by
      have hi := (List.getElem?_eq_some_iff.mp e).1
      rw [o2 i (by omega)]
      exact e
    exact K1.gro g
  have W : LW h2 n f S1 := ⟨fun i hi => by rw [o2 i (by omega)]; exact o1 i hi, l2, K3, D2, si_1⟩
  obtain ⟨h3, S3, e3, W3⟩ := law_run (d := d) hn n 0 h2 S1 (Nat.zero_le _) (by omega) W
  refine ⟨h3, S3, ?_, W3⟩
  have k7 := xcls_new (p := B3 n f) (r := []) (ci := 7) (fs := [.null, .null, .null, .null, .null, .null, .null])
  have k8 := xcls_new (p := h1) (r := []) (ci := 8) (fs := [.null, .null, .int 0, .int 0, .null, .null, .null, .int 0, .int 0, .int 0, .int 0, .null, .null, .int 0, .null, .null, .int 0, .null, .null, .null])
  rw [l1'] at k8
  have bl : (B3 n f).length = 3 := rfl
  rw [bl] at k7
  have e1 : xc XP (d + 14) 77 [.ref 3] (B3 n f ++ [.inl (7, [.null, .null, .null, .null, .null, .null, .null])]) = some (none, h1) := e1
  rw [n_L_law]
  generalize B3 n f = B at *
  simp (disch := first | assumption | omega) only [e_L_law_0, e_L_law_1, e_L_law_2, e_L_law_3, e_L_law_4, e_L_law_5, e_L_law_6, e_L_law_7, e_L_law_8, e_L_law_9, bl, k7, e1, xbk_v, l1', k8, e2, e3]
end RunR
