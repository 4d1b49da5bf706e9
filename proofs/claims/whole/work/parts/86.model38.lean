/-! THE MODEL IS MADE -/
section Md32R
variable {d : Nat} {p : XH}
theorem q_init8 {m : Nat} (hm : p.length = m) : ∃ h', xc XP (d + 14) 112 [.ref m] (p ++ [.inl (8, [.null, .null, .int 0, .int 0, .null, .null, .null, .int 0, .int 0, .int 0, .int 0, .null, .null, .int 0, .null, .null, .int 0, .null, .null, .null])]) = some (none, h') ∧ Md h' m S1 ∧ h'.length = m + 13 ∧ ∀ i, i < m → h'[i]? = p[i]? := by
  have e0 : xe XP (d + 14) 112 (0, [.ref p.length], [], p ++ [.inl (8, [.null, .null, .int 0, .int 0, .null, .null, .null, .int 0, .int 0, .int 0, .int 0, .null, .null, .int 0, .null, .null, .int 0, .null, .null, .null])]) = xe XP (d + 14) 112 (50, [.ref p.length], [], p ++ [.inl (8, [.ref (p.length + 1), .ref (p.length + 2), .int 0, .int 0, .ref (p.length + 3), .ref (p.length + 4), .ref (p.length + 5), .int 0, .int 0, .int 0, .int 0, .ref (p.length + 6), .ref (p.length + 7), .int 0, .ref (p.length + 8), .ref (p.length + 9), .int 0, .ref (p.length + 10), .ref (p.length + 11), .ref (p.length + 12)]), iz 113, iz 565, iz 113, iz 16, iz 200, ba 100 (fun _ => 0), iz 3, iz 48, iz 48, iz 48, iz 48, iz 113]) := by
    simp (disch := simp) only [e_X8_init_0, e_X8_init_1, e_X8_init_2, e_X8_init_3, e_X8_init_4, e_X8_init_5, e_X8_init_6, e_X8_init_7, e_X8_init_8, e_X8_init_9, e_X8_init_10, e_X8_init_11, e_X8_init_12, e_X8_init_13, e_X8_init_14, e_X8_init_15, e_X8_init_16, e_X8_init_17, e_X8_init_18, e_X8_init_19, e_X8_init_20, e_X8_init_21, e_X8_init_22, e_X8_init_23, e_X8_init_24, e_X8_init_25, e_X8_init_26, e_X8_init_27, e_X8_init_28, e_X8_init_29, e_X8_init_30, e_X8_init_31, e_X8_init_32, e_X8_init_33, e_X8_init_34, e_X8_init_35, e_X8_init_36, e_X8_init_37, e_X8_init_38, e_X8_init_39, e_X8_init_40, e_X8_init_41, e_X8_init_42, e_X8_init_43, e_X8_init_44, e_X8_init_45, e_X8_init_46, e_X8_init_47, e_X8_init_48, e_X8_init_49, app_new, len_new, List.nil_append, List.length_nil, List.length_cons, List.cons_append, xpf_new, Option.bind_some, Nat.zero_add, List.set_cons_zero, List.set_cons_succ]
  rw [hm] at e0
  have g : ∀ (L : XH) (j : Nat), (p ++ L)[m + j]? = L[j]? := fun L j => by rw [List.getElem?_append_right (by omega), hm, Nat.add_sub_cancel_left]
  have g0 : ∀ (L : XH), (p ++ L)[m]? = L[0]? := fun L => g L 0
  have go : ∀ (L : XH) (i : Nat), i < m → (p ++ L)[i]? = p[i]? := fun L i hi => List.getElem?_append_left (by omega)
  have gl : ∀ (L : XH), (p ++ L).length = m + L.length := fun L => by rw [List.length_append, hm]
  generalize hH : p ++ [.inl (8, [.ref (m + 1), .ref (m + 2), .int 0, .int 0, .ref (m + 3), .ref (m + 4), .ref (m + 5), .int 0, .int 0, .int 0, .int 0, .ref (m + 6), .ref (m + 7), .int 0, .ref (m + 8), .ref (m + 9), .int 0, .ref (m + 10), .ref (m + 11), .ref (m + 12)]), iz 113, iz 565, iz 113, iz 16, iz 200, ba 100 (fun _ => 0), iz 3, iz 48, iz 48, iz 48, iz 48, iz 113] = H at e0
  have M : MdO H m (nI 0) (nI 0) (nI 0) (nI 0) (nI 0) (nI 0) (nI 0) (nI 0) := by unfold MdO; rw [← hH, g0]; rfl
  have E1 : H[m + 1]? = some (iz 113) := by rw [← hH, g]; rfl
  have E2 : H[m + 2]? = some (iz 565) := by rw [← hH, g]; rfl
  have E3 : H[m + 3]? = some (iz 113) := by rw [← hH, g]; rfl
  have E4 : H[m + 4]? = some (iz 16) := by rw [← hH, g]; rfl
  have E5 : H[m + 5]? = some (iz 200) := by rw [← hH, g]; rfl
  have E6 : H[m + 6]? = some (ba 100 (fun _ => 0)) := by rw [← hH, g]; rfl
  have E7 : H[m + 7]? = some (iz 3) := by rw [← hH, g]; rfl
  have E8 : H[m + 8]? = some (iz 48) := by rw [← hH, g]; rfl
  have E9 : H[m + 9]? = some (iz 48) := by rw [← hH, g]; rfl
  have E10 : H[m + 10]? = some (iz 48) := by rw [← hH, g]; rfl
  have E11 : H[m + 11]? = some (iz 48) := by rw [← hH, g]; rfl
  have E12 : H[m + 12]? = some (iz 113) := by rw [← hH, g]; rfl
  have Hl : H.length = m + 13 := by rw [← hH, gl]; rfl
  have Ho : ∀ i, i < m → H[i]? = p[i]? := fun i hi => by rw [← hH]; exact go _ i hi
  clear hH
  obtain ⟨h1, f1, e1, A1, L1, R1, s1⟩ := q_clears (d := d + 12) E1
  have M1 : MdO h1 m (nI 0) (nI 0) (nI 0) (nI 0) (nI 0) (nI 0) (nI 0) (nI 0) := by unfold MdO; rw [s1.2 _ (by omega)]; exact M
  obtain ⟨h2, f2, e2, A2, L2, -, s2⟩ := q_comes (d := d + 13) A1 L1 (q := (10, 120, 3, 12, 1)) (by refine ⟨?_, ⟨?_, ?_, ?_⟩, ?_, ?_, ?_⟩ <;> decide) (by decide)
  have M2 : MdO h2 m (nI 0) (nI 0) (nI 0) (nI 0) (nI 0) (nI 0) (nI 0) (nI 0) := by unfold MdO; rw [s2.2 _ (by omega)]; exact M1
  obtain ⟨h3, f3, e3, A3, L3, -, s3⟩ := q_comes (d := d + 13) A2 L2 (q := (20, 222, 0, 7, 2)) (by refine ⟨?_, ⟨?_, ?_, ?_⟩, ?_, ?_, ?_⟩ <;> decide) (by decide)
  have M3 : MdO h3 m (nI 0) (nI 0) (nI 0) (nI 0) (nI 0) (nI 0) (nI 0) (nI 0) := by unfold MdO; rw [s3.2 _ (by omega)]; exact M2
  obtain ⟨h4, f4, e4, A4, L4, -, s4⟩ := q_comes (d := d + 13) A3 L3 (q := (5, 12, 6, 6, 3)) (by refine ⟨?_, ⟨?_, ?_, ?_⟩, ?_, ?_, ?_⟩ <;> decide) (by decide)
  have M4 : MdO h4 m (nI 0) (nI 0) (nI 0) (nI 0) (nI 0) (nI 0) (nI 0) (nI 0) := by unfold MdO; rw [s4.2 _ (by omega)]; exact M3
  obtain ⟨h5, f5, e5, A5, L5, -, s5⟩ := q_comes (d := d + 13) A4 L4 (q := (30, 122, 8, 15, 4)) (by refine ⟨?_, ⟨?_, ?_, ?_⟩, ?_, ?_, ?_⟩ <;> decide) (by decide)
  have M5 : MdO h5 m (nI 0) (nI 0) (nI 0) (nI 0) (nI 0) (nI 0) (nI 0) (nI 0) := by unfold MdO; rw [s5.2 _ (by omega)]; exact M4
  have L5 : RwL f5 l1 := L5
  have hd1 : dst l1 := by
    have := rdS_v (tx := fx) (by decide) 17 0 [] (by simp) (by intro i j hi; simp at hi) (by simp) (by omega)
    rw [fx_read] at this
    exact this.2.1
  have hPK := q_packsM (d := d + 11) A5 L5 hd1 (by decide)
  have sall : ∀ h6, Same h5 h6 (m + 1) (m + 2) → Same H h6 (m + 1) (m + 2) := fun h6 s6 => ((((s1.trans s2).trans s3).trans s4).trans s5).trans s6
  have run : ∀ h6, xc XP (d + 13) 139 [.ref (m + 1)] h5 = some (none, h6) → xc XP (d + 14) 112 [.ref m] (p ++ [.inl (8, [.null, .null, .int 0, .int 0, .null, .null, .null, .int 0, .int 0, .int 0, .int 0, .null, .null, .int 0, .null, .null, .int 0, .null, .null, .null])]) = some (none, h6) := by
    intro h6 e6
    rw [n_X8_init, e0]
    simp (disch := first | assumption | omega) only [e_X8_init_50, e_X8_init_51, e_X8_init_52, e_X8_init_53, e_X8_init_54, e_X8_init_55, e_X8_init_56, e_X8_init_57, e_X8_init_58, e_X8_init_59, e_X8_init_60, e_X8_init_61, e_X8_init_62, e_X8_init_63, e_X8_init_64, e_X8_init_65, e_X8_init_66, e_X8_init_67, e_X8_init_68, e_X8_init_69, e_X8_init_70, e_X8_init_71, e_X8_init_72, e_X8_init_73, e_X8_init_74, e_X8_init_75, e_X8_init_76, e_X8_init_77, e_X8_init_78, e_X8_init_79, e_X8_init_80, e_X8_init_81, e_X8_init_82, e_X8_init_83, e_X8_init_84, e_X8_init_85, e_X8_init_86, e_X8_init_87, e_X8_init_88, M.f0, M1.f0, M2.f0, M3.f0, M4.f0, M5.f0, Option.bind_some, e1, e2, e3, e4, e5, e6, xbk_v]
  have fin : ∀ (P : Sl) (h6 : XH) (f6 : Nat → Int32), h6[m + 1]? = some (ia 113 f6) → RwL f6 l1 → RwS f6 l1 P → Same h5 h6 (m + 1) (m + 2) → Md h6 m (mkS [] l1 P [] 0 0 pb0) ∧ h6.length = m + 13 ∧ ∀ i, i < m → h6[i]? = p[i]? := by
    intro P h6 f6 A6 L6 R6 s6
    have s := sall h6 s6
    refine ⟨⟨⟨by show 0 < 5; omega, by show 0 ≤ 5; omega, by show 0 ≤ 200; omega, fun c hc => (by cases hc), by show 0 ≤ 48; omega⟩, ⟨nI 0, nI 0, nI 0, nI 0, by unfold MdO; rw [s.2 _ (by omega)]; exact M⟩, ⟨f6, A6, L6, R6⟩, ⟨_, by rw [s.2 _ (by omega)]; exact E2, fun j hj => absurd hj (Nat.not_lt_zero j)⟩, ⟨_, by rw [s.2 _ (by omega)]; exact E3⟩, ⟨_, by rw [s.2 _ (by omega)]; exact E4⟩, ⟨_, by rw [s.2 _ (by omega)]; exact E5, fun j c hj => (by cases hj)⟩, ⟨_, by rw [s.2 _ (by omega)]; exact E6⟩, ⟨_, by rw [s.2 _ (by omega)]; exact E7⟩, ⟨_, _, by rw [s.2 _ (by omega)]; exact E8, by rw [s.2 _ (by omega)]; exact E9, fun j q hj => (by cases hj)⟩, ⟨_, _, by rw [s.2 _ (by omega)]; exact E10, by rw [s.2 _ (by omega)]; exact E11⟩, ⟨_, by rw [s.2 _ (by omega)]; exact E12⟩⟩, by rw [s.1]; exact Hl, fun i hi => ?_⟩
    rw [s.2 _ (by omega)]
    exact Ho i hi
  unfold S1
  generalize pk l1 = P at hPK ⊢
  obtain ⟨h6, f6, e6, A6, L6, R6, s6⟩ := hPK
  obtain ⟨z1, z2, z3⟩ := fin P h6 f6 A6 L6 R6 s6
  exact ⟨h6, run h6 e6, z1, z2, z3⟩
end Md32R
