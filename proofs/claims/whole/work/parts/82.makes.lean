/-! THE CONSTRUCTORS of the small classes -/
abbrev iz (n : Nat) : XC := ia n (fun _ => 0)
def bd14 (t : Nat) (R : Nat → Int32) : List XC := [.inl (0, [.ref (t + 1), .ref (t + 9)]), .inl (3, [.int (nI 0), .ref (t + 2), .ref (t + 3), .ref (t + 4), .ref (t + 5), .ref (t + 6), .ref (t + 7), .ref (t + 8)]), iz 16, iz 16, iz 16, iz 16, iz 16, iz 16, iz 16, .inl (5, [.ref (t + 10), .ref (t + 11), .ref (t + 12), .ref (t + 13)]), ia 17 R, iz 17, iz 17, iz 17]
theorem xcls_new {p r : XH} {ci : Nat} {fs : List Value} : xcls (p ++ .inl (ci, fs) :: r) (.ref p.length) = some ci := by
  unfold xcls
  simp
theorem xpf_new {p r : XH} {ci k : Nat} {fs : List Value} {v : Value} (hk : k < fs.length) : xpf (p ++ .inl (ci, fs) :: r) p.length ci k v = some (p ++ .inl (ci, fs.set k v) :: r) := by
  unfold xpf
  simp [hk]
theorem len_new {p r : XH} {c : XC} : (p ++ c :: r).length = p.length + (r.length + 1) := by simp
theorem app_new {p r : XH} {c x : XC} : (p ++ c :: r) ++ [x] = p ++ c :: (r ++ [x]) := by simp
section MakeR
variable {d : Nat} {p : XH}
theorem q_init1 : xc XP d 10 [.ref p.length] (p ++ [.inl (1, [.null, .null, .int 0])]) = some (none, p ++ [.inl (1, [.ref (p.length + 1), .ref (p.length + 2), .int (nI 0)]), iz 18, iz 18]) := by
  rw [n_X1_init]
  simp (disch := simp) only [e_X1_init_0, e_X1_init_1, e_X1_init_2, e_X1_init_3, e_X1_init_4, e_X1_init_5, e_X1_init_6, e_X1_init_7, e_X1_init_8, e_X1_init_9, e_X1_init_10, e_X1_init_11, e_X1_init_12, e_X1_init_13, app_new, len_new, List.nil_append, List.length_nil, List.length_cons, List.cons_append, xpf_new, Option.bind_some, Nat.zero_add, List.set_cons_zero, List.set_cons_succ]
theorem q_init6 : xc XP d 74 [.ref p.length] (p ++ [.inl (6, [.null, .int 0])]) = some (none, p ++ [.inl (6, [.ref (p.length + 1), .int (nI 0)]), iz 200]) := by
  rw [n_X6_init]
  simp (disch := simp) only [e_X6_init_0, e_X6_init_1, e_X6_init_2, e_X6_init_3, e_X6_init_4, e_X6_init_5, e_X6_init_6, e_X6_init_7, e_X6_init_8, e_X6_init_9, app_new, len_new, List.nil_append, List.length_nil, List.length_cons, List.cons_append, xpf_new, Option.bind_some, Nat.zero_add, List.set_cons_zero, List.set_cons_succ]
theorem q_init4 : xc XP d 36 [.ref p.length] (p ++ [.inl (4, [.int 0, .int 0, .int 0, .int 0, .int 0, .int 0])]) = some (none, p ++ [.inl (4, [.int (nI 0), .int (nI 0), .int (nI 0), .int (nI 0), .int (nI 0), .int (nI 0)])]) := by
  rw [n_X4_init]
  simp (disch := simp) only [e_X4_init_0, e_X4_init_1, e_X4_init_2, e_X4_init_3, e_X4_init_4, e_X4_init_5, e_X4_init_6, e_X4_init_7, e_X4_init_8, e_X4_init_9, e_X4_init_10, e_X4_init_11, e_X4_init_12, e_X4_init_13, e_X4_init_14, e_X4_init_15, e_X4_init_16, e_X4_init_17, e_X4_init_18, e_X4_init_19, e_X4_init_20, app_new, len_new, List.nil_append, List.length_nil, List.length_cons, List.cons_append, xpf_new, Option.bind_some, Nat.zero_add, List.set_cons_zero, List.set_cons_succ]
theorem q_init3 : xc XP d 17 [.ref p.length] (p ++ [.inl (3, [.int 0, .null, .null, .null, .null, .null, .null, .null])]) = some (none, p ++ [.inl (3, [.int (nI 0), .ref (p.length + 1), .ref (p.length + 2), .ref (p.length + 3), .ref (p.length + 4), .ref (p.length + 5), .ref (p.length + 6), .ref (p.length + 7)]), iz 16, iz 16, iz 16, iz 16, iz 16, iz 16, iz 16]) := by
  rw [n_X3_init]
  simp (disch := simp) only [e_X3_init_0, e_X3_init_1, e_X3_init_2, e_X3_init_3, e_X3_init_4, e_X3_init_5, e_X3_init_6, e_X3_init_7, e_X3_init_8, e_X3_init_9, e_X3_init_10, e_X3_init_11, e_X3_init_12, e_X3_init_13, e_X3_init_14, e_X3_init_15, e_X3_init_16, e_X3_init_17, e_X3_init_18, e_X3_init_19, e_X3_init_20, e_X3_init_21, e_X3_init_22, e_X3_init_23, e_X3_init_24, e_X3_init_25, e_X3_init_26, e_X3_init_27, e_X3_init_28, e_X3_init_29, e_X3_init_30, e_X3_init_31, e_X3_init_32, e_X3_init_33, app_new, len_new, List.nil_append, List.length_nil, List.length_cons, List.cons_append, xpf_new, Option.bind_some, Nat.zero_add, List.set_cons_zero, List.set_cons_succ]
theorem q_init5 : ∃ R, xc XP (d + 2) 43 [.ref p.length] (p ++ [.inl (5, [.null, .null, .null, .null])]) = some (none, p ++ [.inl (5, [.ref (p.length + 1), .ref (p.length + 2), .ref (p.length + 3), .ref (p.length + 4)]), ia 17 R, iz 17, iz 17, iz 17]) ∧ ∀ k, k < 17 → R k = -4 := by
  have T : Tab (p ++ [.inl (5, [.ref (p.length + 1), .ref (p.length + 2), .ref (p.length + 3), .ref (p.length + 4)]), iz 17, iz 17, iz 17, iz 17]) p.length (fun _ => 0) (fun _ => 0) (fun _ => 0) (fun _ => 0) := by
    refine ⟨?_, ?_, ?_, ?_, ?_⟩ <;> simp [List.getElem?_append_right]
  obtain ⟨R, e, hR⟩ := q_fill (x := -4) T.2.1 (by decide) (d := d)
  refine ⟨R, ?_, hR⟩
  have c0 := T.c
  have e2 : (p ++ [.inl (5, [.ref (p.length + 1), .ref (p.length + 2), .ref (p.length + 3), .ref (p.length + 4)]), iz 17, iz 17, iz 17, iz 17]).set (p.length + 1) (ia 17 R) = p ++ [.inl (5, [.ref (p.length + 1), .ref (p.length + 2), .ref (p.length + 3), .ref (p.length + 4)]), ia 17 R, iz 17, iz 17, iz 17] := by
    rw [List.set_append_right _ _ (by omega)]
    simp
  rw [e2] at e
  have e3 : xc XP (d + 1) 44 [.ref p.length] (p ++ [.inl (5, [.ref (p.length + 1), .ref (p.length + 2), .ref (p.length + 3), .ref (p.length + 4)]), iz 17, iz 17, iz 17, iz 17]) = some (none, p ++ [.inl (5, [.ref (p.length + 1), .ref (p.length + 2), .ref (p.length + 3), .ref (p.length + 4)]), ia 17 R, iz 17, iz 17, iz 17]) := by
    rw [n_X5_clearAll]
    simp (disch := first | assumption | omega) only [e_X5_clearAll_0, e_X5_clearAll_1, e_X5_clearAll_2, e_X5_clearAll_3, e_X5_clearAll_4, T.f0, Option.bind_some, e, xbk_v]
  rw [n_X5_init]
  simp (disch := first | assumption | simp) only [e_X5_init_0, e_X5_init_1, e_X5_init_2, e_X5_init_3, e_X5_init_4, e_X5_init_5, e_X5_init_6, e_X5_init_7, e_X5_init_8, e_X5_init_9, e_X5_init_10, e_X5_init_11, e_X5_init_12, e_X5_init_13, e_X5_init_14, e_X5_init_15, e_X5_init_16, e_X5_init_17, e_X5_init_18, app_new, len_new, List.nil_append, List.length_nil, List.length_cons, List.cons_append, xpf_new, Option.bind_some, Nat.zero_add, List.set_cons_zero, List.set_cons_succ]
  simp (disch := first | assumption | simp) only [e_X5_init_19, e_X5_init_20, e3, xbk_v]
theorem q_init0 : ∃ R, xc XP (d + 3) 0 [.ref p.length] (p ++ [.inl (0, [.null, .null])]) = some (none, p ++ bd14 p.length R) ∧ ∀ k, k < 17 → R k = -4 := by
  have a3 := q_init3 (d := d + 2) (p := p ++ [.inl (0, [.null, .null])])
  obtain ⟨R, a5, hR⟩ := q_init5 (d := d) (p := p ++ [.inl (0, [.ref (p.length + 1), .null]), .inl (3, [.int (nI 0), .ref (p.length + 2), .ref (p.length + 3), .ref (p.length + 4), .ref (p.length + 5), .ref (p.length + 6), .ref (p.length + 7), .ref (p.length + 8)]), iz 16, iz 16, iz 16, iz 16, iz 16, iz 16, iz 16])
  refine ⟨R, ?_, hR⟩
  simp only [len_new, app_new, List.append_assoc, List.cons_append, List.nil_append, List.length_nil, List.length_cons, Nat.zero_add, Nat.add_assoc, Nat.reduceAdd] at a3 a5
  have k3 := xcls_new (p := p ++ [.inl (0, [.null, .null])]) (r := []) (ci := 3) (fs := [.int 0, .null, .null, .null, .null, .null, .null, .null])
  have k5 := xcls_new (p := p ++ [.inl (0, [.ref (p.length + 1), .null]), .inl (3, [.int (nI 0), .ref (p.length + 2), .ref (p.length + 3), .ref (p.length + 4), .ref (p.length + 5), .ref (p.length + 6), .ref (p.length + 7), .ref (p.length + 8)]), iz 16, iz 16, iz 16, iz 16, iz 16, iz 16, iz 16]) (r := []) (ci := 5) (fs := [.null, .null, .null, .null])
  simp only [len_new, app_new, List.append_assoc, List.cons_append, List.nil_append, List.length_nil, List.length_cons, Nat.zero_add, Nat.add_assoc, Nat.reduceAdd] at k3 k5
  rw [n_X0_init]
  simp (disch := first | assumption | simp) only [e_X0_init_0, e_X0_init_1, e_X0_init_2, e_X0_init_3, e_X0_init_4, e_X0_init_5, e_X0_init_6, e_X0_init_7, e_X0_init_8, e_X0_init_9, e_X0_init_10, e_X0_init_11, e_X0_init_12, app_new, len_new, List.nil_append, List.length_nil, List.length_cons, List.cons_append, Nat.zero_add, Nat.add_assoc, Nat.reduceAdd, a3, a5, xbk_v, xpf_new, Option.bind_some, List.set_cons_zero, List.set_cons_succ]
  rfl
end MakeR
