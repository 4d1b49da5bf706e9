/-! THE CONSTRUCTORS: the past, the class's fields -/
theorem bd14_len (t : Nat) (R : Nat → Int32) : (bd14 t R).length = 14 := rfl
section Make2R
variable {d : Nat} {p rest : XH}
theorem xbw_new {vs : List Value} {o : XC} {i v : Nat} (hi : i < vs.length) (hl : vs.length < 1000) (hc : xcls (p ++ o :: .inr (.inr vs) :: rest) (.ref v) = some 0) : xbw (p ++ o :: .inr (.inr vs) :: rest) (p.length + 1) (nI i) v = some (p ++ o :: .inr (.inr (vs.set i (.ref v))) :: rest) := by
  unfold xbw xbs
  have e : (p ++ o :: .inr (.inr vs) :: rest)[p.length + 1]? = some (.inr (.inr vs)) := by rw [List.getElem?_append_right (by omega)]; simp
  rw [e]
  simp only [Option.bind_some]
  rw [if_pos (by rw [xin_nI hi (by omega), decide_eq_true hc]; rfl), nI_clamp (by omega), List.set_append_right _ _ (by omega)]
  simp
theorem past_step {i : Nat} {vs : List Value} (hi : i < 5) (hv : vs.length = 5) {t : Nat} (ht : p.length + (rest.length + 2) = t) : ∃ R, xe XP (d + 4) 14 (14, [.ref p.length, .int (nI i)], [], p ++ .inl (2, [.ref (p.length + 1), .int (nI 0), .int (nI 0)]) :: .inr (.inr vs) :: rest) = xe XP (d + 4) 14 (14, [.ref p.length, .int (nI (i + 1))], [], p ++ .inl (2, [.ref (p.length + 1), .int (nI 0), .int (nI 0)]) :: .inr (.inr (vs.set i (.ref t))) :: (rest ++ bd14 t R)) ∧ ∀ k, k < 17 → R k = -4 := by
  obtain ⟨R, e0, hR⟩ := q_init0 (d := d) (p := p ++ .inl (2, [.ref (p.length + 1), .int (nI 0), .int (nI 0)]) :: .inr (.inr vs) :: rest)
  have hl : (p ++ .inl (2, [.ref (p.length + 1), .int (nI 0), .int (nI 0)]) :: .inr (.inr vs) :: rest).length = t := by rw [← ht]; simp
  have k0 := xcls_new (p := p ++ .inl (2, [.ref (p.length + 1), .int (nI 0), .int (nI 0)]) :: .inr (.inr vs) :: rest) (r := []) (ci := 0) (fs := [.null, .null])
  have g0 : xgf (p ++ .inl (2, [.ref (p.length + 1), .int (nI 0), .int (nI 0)]) :: .inr (.inr vs) :: rest) p.length 2 0 = some (.ref (p.length + 1)) := by
    have e : (p ++ .inl (2, [.ref (p.length + 1), .int (nI 0), .int (nI 0)]) :: .inr (.inr vs) :: rest)[p.length]? = some (.inl (2, [.ref (p.length + 1), .int (nI 0), .int (nI 0)])) := by simp
    exact xgf_o e 0
  have k1 := xcls_new (p := p ++ .inl (2, [.ref (p.length + 1), .int (nI 0), .int (nI 0)]) :: .inr (.inr vs) :: rest) (r := (bd14 t R).tail) (ci := 0) (fs := [.ref (t + 1), .ref (t + 9)])
  rw [hl] at e0 k0 k1
  have k1 : xcls (p ++ .inl (2, [.ref (p.length + 1), .int (nI 0), .int (nI 0)]) :: .inr (.inr vs) :: rest ++ bd14 t R) (.ref t) = some 0 := k1
  have ea : p ++ .inl (2, [.ref (p.length + 1), .int (nI 0), .int (nI 0)]) :: .inr (.inr vs) :: rest ++ bd14 t R = p ++ .inl (2, [.ref (p.length + 1), .int (nI 0), .int (nI 0)]) :: .inr (.inr vs) :: (rest ++ bd14 t R) := by simp
  rw [ea] at e0 k1
  have wb := xbw_new (p := p) (rest := rest ++ bd14 t R) (o := .inl (2, [.ref (p.length + 1), .int (nI 0), .int (nI 0)])) (vs := vs) (i := i) (v := t) (by omega) (by omega) k1
  refine ⟨R, ?_, hR⟩
  rw [e_X2_init_14]
  simp (disch := first | assumption | omega) only [e_X2_init_15, e_X2_init_16, e_X2_init_17, e_X2_init_18, e_X2_init_19, e_X2_init_20, e_X2_init_21, e_X2_init_22, e_X2_init_23, e_X2_init_24, e_X2_init_25, nI_leI, if_f, g0, Option.bind_some, hl, e0, xbk_v, wb, nI_add]
theorem q_init2 {t : Nat} (ht : p.length = t) : ∃ R0 R1 R2 R3 R4, xc XP (d + 4) 14 [.ref t] (p ++ [.inl (2, [.null, .int 0, .int 0])]) = some (none, p ++ .inl (2, [.ref (t + 1), .int (nI 0), .int (nI 0)]) :: .inr (.inr [.ref (t + 2), .ref (t + 16), .ref (t + 30), .ref (t + 44), .ref (t + 58)]) :: ([] ++ bd14 (t + 2) R0 ++ bd14 (t + 16) R1 ++ bd14 (t + 30) R2 ++ bd14 (t + 44) R3 ++ bd14 (t + 58) R4)) ∧ (∀ k, k < 17 → R0 k = -4 ∧ R1 k = -4 ∧ R2 k = -4 ∧ R3 k = -4 ∧ R4 k = -4) := by
  obtain ⟨R0, s0, h0⟩ := past_step (d := d) (p := p) (rest := []) (i := 0) (vs := [.null, .null, .null, .null, .null]) (by omega) rfl (t := t + 2) (by simp; omega)
  obtain ⟨R1, s1, h1⟩ := past_step (d := d) (p := p) (rest := [] ++ bd14 (t + 2) R0) (i := 1) (vs := [.ref (t + 2), .null, .null, .null, .null]) (by omega) rfl (t := t + 16) (by simp [bd14_len]; omega)
  obtain ⟨R2, s2, h2⟩ := past_step (d := d) (p := p) (rest := [] ++ bd14 (t + 2) R0 ++ bd14 (t + 16) R1) (i := 2) (vs := [.ref (t + 2), .ref (t + 16), .null, .null, .null]) (by omega) rfl (t := t + 30) (by simp [bd14_len]; omega)
  obtain ⟨R3, s3, h3⟩ := past_step (d := d) (p := p) (rest := [] ++ bd14 (t + 2) R0 ++ bd14 (t + 16) R1 ++ bd14 (t + 30) R2) (i := 3) (vs := [.ref (t + 2), .ref (t + 16), .ref (t + 30), .null, .null]) (by omega) rfl (t := t + 44) (by simp [bd14_len]; omega)
  obtain ⟨R4, s4, h4⟩ := past_step (d := d) (p := p) (rest := [] ++ bd14 (t + 2) R0 ++ bd14 (t + 16) R1 ++ bd14 (t + 30) R2 ++ bd14 (t + 44) R3) (i := 4) (vs := [.ref (t + 2), .ref (t + 16), .ref (t + 30), .ref (t + 44), .null]) (by omega) rfl (t := t + 58) (by simp [bd14_len]; omega)
  subst ht
  refine ⟨R0, R1, R2, R3, R4, ?_, fun k hk => ⟨h0 k hk, h1 k hk, h2 k hk, h3 k hk, h4 k hk⟩⟩
  have all := s0.trans (s1.trans (s2.trans (s3.trans s4)))
  rw [n_X2_init]
  have pre : xe XP (d + 4) 14 (0, [.ref p.length, .null], [], p ++ [.inl (2, [.null, .int 0, .int 0])]) = xe XP (d + 4) 14 (14, [.ref p.length, .int (nI 0)], [], p ++ .inl (2, [.ref (p.length + 1), .int (nI 0), .int (nI 0)]) :: .inr (.inr [.null, .null, .null, .null, .null]) :: []) := by
    simp (disch := simp) only [e_X2_init_0, e_X2_init_1, e_X2_init_2, e_X2_init_3, e_X2_init_4, e_X2_init_5, e_X2_init_6, e_X2_init_7, e_X2_init_8, e_X2_init_9, e_X2_init_10, e_X2_init_11, e_X2_init_12, e_X2_init_13, app_new, len_new, List.nil_append, List.length_nil, List.length_cons, List.cons_append, xpf_new, Option.bind_some, Nat.zero_add, List.set_cons_zero, List.set_cons_succ]
    rfl
  rw [pre, all]
  simp (disch := first | assumption | omega) only [e_X2_init_14, e_X2_init_15, e_X2_init_16, e_X2_init_26, nI_leI, if_t]
  rfl
variable {fs : List Value} {w : Value}
theorem f_text {t : Nat} (ht : p.length + (rest.length + 1) = t) : xe XP (d + 14) 77 (2, [.ref p.length, w], [], p ++ .inl (7, [.null, .null, .null, .null, .null, .null, .null]) :: rest) = xe XP (d + 14) 77 (7, [.ref p.length, w], [], p ++ .inl (7, [.ref t, .null, .null, .null, .null, .null, .null]) :: (rest ++ [.inl (6, [.ref (t + 1), .int (nI 0)]), iz 200])) := by
  have hl : (p ++ .inl (7, [.null, .null, .null, .null, .null, .null, .null]) :: rest).length = t := by rw [← ht]; simp
  have a := q_init6 (d := d + 13) (p := p ++ .inl (7, [.null, .null, .null, .null, .null, .null, .null]) :: rest)
  have k := xcls_new (p := p ++ .inl (7, [.null, .null, .null, .null, .null, .null, .null]) :: rest) (r := []) (ci := 6) (fs := [.null, .int 0])
  rw [hl] at a k
  simp only [List.append_assoc, List.cons_append] at a k
  simp (disch := first | assumption | simp) only [e_X7_init_2, e_X7_init_3, e_X7_init_4, e_X7_init_5, e_X7_init_6, hl, a, k, xbk_v, List.append_assoc, List.cons_append, xpf_new, Option.bind_some, List.set_cons_zero, List.set_cons_succ]
theorem f_reader {t : Nat} {v0 : Value} (ht : p.length + (rest.length + 1) = t) : xe XP (d + 14) 77 (7, [.ref p.length, w], [], p ++ .inl (7, [v0, .null, .null, .null, .null, .null, .null]) :: rest) = xe XP (d + 14) 77 (12, [.ref p.length, w], [], p ++ .inl (7, [v0, .ref t, .null, .null, .null, .null, .null]) :: (rest ++ [.inl (4, [.int (nI 0), .int (nI 0), .int (nI 0), .int (nI 0), .int (nI 0), .int (nI 0)])])) := by
  have hl : (p ++ .inl (7, [v0, .null, .null, .null, .null, .null, .null]) :: rest).length = t := by rw [← ht]; simp
  have a := q_init4 (d := d + 13) (p := p ++ .inl (7, [v0, .null, .null, .null, .null, .null, .null]) :: rest)
  have k := xcls_new (p := p ++ .inl (7, [v0, .null, .null, .null, .null, .null, .null]) :: rest) (r := []) (ci := 4) (fs := [.int 0, .int 0, .int 0, .int 0, .int 0, .int 0])
  rw [hl] at a k
  simp only [List.append_assoc, List.cons_append] at a k
  simp (disch := first | assumption | simp) only [e_X7_init_7, e_X7_init_8, e_X7_init_9, e_X7_init_10, e_X7_init_11, hl, a, k, xbk_v, List.append_assoc, List.cons_append, xpf_new, Option.bind_some, List.set_cons_zero, List.set_cons_succ]
theorem f_board {t : Nat} {v0 v1 : Value} (ht : p.length + (rest.length + 1) = t) : ∃ R, xe XP (d + 14) 77 (12, [.ref p.length, w], [], p ++ .inl (7, [v0, v1, .null, .null, .null, .null, .null]) :: rest) = xe XP (d + 14) 77 (17, [.ref p.length, w], [], p ++ .inl (7, [v0, v1, .ref t, .null, .null, .null, .null]) :: (rest ++ bd14 t R)) ∧ ∀ k, k < 17 → R k = -4 := by
  have hl : (p ++ .inl (7, [v0, v1, .null, .null, .null, .null, .null]) :: rest).length = t := by rw [← ht]; simp
  obtain ⟨R, a, hR⟩ := q_init0 (d := d + 10) (p := p ++ .inl (7, [v0, v1, .null, .null, .null, .null, .null]) :: rest)
  have k := xcls_new (p := p ++ .inl (7, [v0, v1, .null, .null, .null, .null, .null]) :: rest) (r := []) (ci := 0) (fs := [.null, .null])
  rw [hl] at a k
  simp only [List.append_assoc, List.cons_append] at a k
  refine ⟨R, ?_, hR⟩
  simp (disch := first | assumption | simp) only [e_X7_init_12, e_X7_init_13, e_X7_init_14, e_X7_init_15, e_X7_init_16, hl, a, k, xbk_v, List.append_assoc, List.cons_append, xpf_new, Option.bind_some, List.set_cons_zero, List.set_cons_succ]
theorem f_trial {t : Nat} {v0 v1 v2 : Value} (ht : p.length + (rest.length + 1) = t) : ∃ R, xe XP (d + 14) 77 (17, [.ref p.length, w], [], p ++ .inl (7, [v0, v1, v2, .null, .null, .null, .null]) :: rest) = xe XP (d + 14) 77 (22, [.ref p.length, w], [], p ++ .inl (7, [v0, v1, v2, .ref t, .null, .null, .null]) :: (rest ++ bd14 t R)) ∧ ∀ k, k < 17 → R k = -4 := by
  have hl : (p ++ .inl (7, [v0, v1, v2, .null, .null, .null, .null]) :: rest).length = t := by rw [← ht]; simp
  obtain ⟨R, a, hR⟩ := q_init0 (d := d + 10) (p := p ++ .inl (7, [v0, v1, v2, .null, .null, .null, .null]) :: rest)
  have k := xcls_new (p := p ++ .inl (7, [v0, v1, v2, .null, .null, .null, .null]) :: rest) (r := []) (ci := 0) (fs := [.null, .null])
  rw [hl] at a k
  simp only [List.append_assoc, List.cons_append] at a k
  refine ⟨R, ?_, hR⟩
  simp (disch := first | assumption | simp) only [e_X7_init_17, e_X7_init_18, e_X7_init_19, e_X7_init_20, e_X7_init_21, hl, a, k, xbk_v, List.append_assoc, List.cons_append, xpf_new, Option.bind_some, List.set_cons_zero, List.set_cons_succ]
theorem f_made {t : Nat} {v0 v1 v2 v3 : Value} (ht : p.length + (rest.length + 1) = t) : xe XP (d + 14) 77 (22, [.ref p.length, w], [], p ++ .inl (7, [v0, v1, v2, v3, .null, .null, .null]) :: rest) = xe XP (d + 14) 77 (27, [.ref p.length, w], [], p ++ .inl (7, [v0, v1, v2, v3, .ref t, .null, .null]) :: (rest ++ [.inl (1, [.ref (t + 1), .ref (t + 2), .int (nI 0)]), iz 18, iz 18])) := by
  have hl : (p ++ .inl (7, [v0, v1, v2, v3, .null, .null, .null]) :: rest).length = t := by rw [← ht]; simp
  have a := q_init1 (d := d + 13) (p := p ++ .inl (7, [v0, v1, v2, v3, .null, .null, .null]) :: rest)
  have k := xcls_new (p := p ++ .inl (7, [v0, v1, v2, v3, .null, .null, .null]) :: rest) (r := []) (ci := 1) (fs := [.null, .null, .int 0])
  rw [hl] at a k
  simp only [List.append_assoc, List.cons_append] at a k
  simp (disch := first | assumption | simp) only [e_X7_init_22, e_X7_init_23, e_X7_init_24, e_X7_init_25, e_X7_init_26, hl, a, k, xbk_v, List.append_assoc, List.cons_append, xpf_new, Option.bind_some, List.set_cons_zero, List.set_cons_succ]
theorem f_tried {t : Nat} {v0 v1 v2 v3 v4 : Value} (ht : p.length + (rest.length + 1) = t) : xe XP (d + 14) 77 (27, [.ref p.length, w], [], p ++ .inl (7, [v0, v1, v2, v3, v4, .null, .null]) :: rest) = xe XP (d + 14) 77 (32, [.ref p.length, w], [], p ++ .inl (7, [v0, v1, v2, v3, v4, .ref t, .null]) :: (rest ++ [.inl (1, [.ref (t + 1), .ref (t + 2), .int (nI 0)]), iz 18, iz 18])) := by
  have hl : (p ++ .inl (7, [v0, v1, v2, v3, v4, .null, .null]) :: rest).length = t := by rw [← ht]; simp
  have a := q_init1 (d := d + 13) (p := p ++ .inl (7, [v0, v1, v2, v3, v4, .null, .null]) :: rest)
  have k := xcls_new (p := p ++ .inl (7, [v0, v1, v2, v3, v4, .null, .null]) :: rest) (r := []) (ci := 1) (fs := [.null, .null, .int 0])
  rw [hl] at a k
  simp only [List.append_assoc, List.cons_append] at a k
  simp (disch := first | assumption | simp) only [e_X7_init_27, e_X7_init_28, e_X7_init_29, e_X7_init_30, e_X7_init_31, hl, a, k, xbk_v, List.append_assoc, List.cons_append, xpf_new, Option.bind_some, List.set_cons_zero, List.set_cons_succ]
theorem f_past {t : Nat} {v0 v1 v2 v3 v4 v5 : Value} (ht : p.length + (rest.length + 1) = t) : ∃ R0 R1 R2 R3 R4, xe XP (d + 14) 77 (32, [.ref p.length, w], [], p ++ .inl (7, [v0, v1, v2, v3, v4, v5, .null]) :: rest) = xe XP (d + 14) 77 (37, [.ref p.length, w], [], p ++ .inl (7, [v0, v1, v2, v3, v4, v5, .ref t]) :: (rest ++ .inl (2, [.ref (t + 1), .int (nI 0), .int (nI 0)]) :: .inr (.inr [.ref (t + 2), .ref (t + 16), .ref (t + 30), .ref (t + 44), .ref (t + 58)]) :: ([] ++ bd14 (t + 2) R0 ++ bd14 (t + 16) R1 ++ bd14 (t + 30) R2 ++ bd14 (t + 44) R3 ++ bd14 (t + 58) R4))) ∧ (∀ k, k < 17 → R0 k = -4 ∧ R1 k = -4 ∧ R2 k = -4 ∧ R3 k = -4 ∧ R4 k = -4) := by
  have hl : (p ++ .inl (7, [v0, v1, v2, v3, v4, v5, .null]) :: rest).length = t := by rw [← ht]; simp
  obtain ⟨R0, R1, R2, R3, R4, a, hR⟩ := q_init2 (d := d + 9) (p := p ++ .inl (7, [v0, v1, v2, v3, v4, v5, .null]) :: rest) hl
  have k := xcls_new (p := p ++ .inl (7, [v0, v1, v2, v3, v4, v5, .null]) :: rest) (r := []) (ci := 2) (fs := [.null, .int 0, .int 0])
  rw [hl] at k
  simp only [List.append_assoc, List.cons_append] at k
  refine ⟨R0, R1, R2, R3, R4, ?_, hR⟩
  generalize [] ++ bd14 (t + 2) R0 ++ bd14 (t + 16) R1 ++ bd14 (t + 30) R2 ++ bd14 (t + 44) R3 ++ bd14 (t + 58) R4 = Q at a ⊢
  simp only [List.append_assoc, List.cons_append] at a
  simp (disch := first | assumption | simp) only [e_X7_init_32, e_X7_init_33, e_X7_init_34, e_X7_init_35, e_X7_init_36, hl, a, k, xbk_v, List.append_assoc, List.cons_append, xpf_new, Option.bind_some, List.set_cons_zero, List.set_cons_succ]
end Make2R
