/-! THE LIST of rules: its writes -/
theorem rlN_app_l {l : List Rl} {q : Rl} {j : Nat} (hj : j < l.length) : rlN (l ++ [q]) j = rlN l j := by
  unfold rlN
  rw [List.getD_eq_getElem?_getD, List.getD_eq_getElem?_getD, List.getElem?_append_left hj]
theorem rlN_app_r {l : List Rl} {q : Rl} : rlN (l ++ [q]) l.length = q := by
  unfold rlN
  rw [List.getD_eq_getElem?_getD, List.getElem?_append_right (Nat.le_refl _)]
  simp
theorem rlN_del {l : List Rl} {i j : Nat} : rlN (l.eraseIdx i) j = if j < i then rlN l j else rlN l (j + 1) := by
  unfold rlN
  rw [List.getD_eq_getElem?_getD, List.getElem?_eraseIdx]
  split <;> rw [List.getD_eq_getElem?_getD]
section LstW
variable {h : XH} {r : Nat} {l : List Rl}
theorem q_appendR (L : Lst h r l) {d : Nat} {q : Rl} (hq : vr q) (hl : l.length < 16) : ∃ h', xc XP (d + 1) 19 [.ref r, .int (nI q.1), .int (nI q.2.1), .int (nI q.2.2.1), .int (nI q.2.2.2.1), .int (nI q.2.2.2.2)] h = some (none, h') ∧ Lst h' r (l ++ [q]) ∧ Same h h' r (r + 8) := by
  obtain ⟨K, H, Hc, Hv, F, La, A, T, hj⟩ := L.cells
  have v2 := hq.2.1.1
  have T1 := T.w1 (upd K l.length (nI q.1))
  have T2 := T1.w2 (upd H l.length (nI q.2.1))
  have T3 := T2.w3 (upd Hc l.length (nI (hbN q.2.1 0 + hbN q.2.1 1)))
  have T4 := T3.w4 (upd Hv l.length (nI (hbN q.2.1 1)))
  have T5 := T4.w5 (upd F l.length (nI q.2.2.1))
  have T6 := T5.w6 (upd La l.length (nI q.2.2.2.1))
  have T7 := T6.w7 (upd A l.length (nI q.2.2.2.2))
  have T8 := T7.w0 (l.length + 1)
  have s1 := (Same.refl h r (r + 8)).set (t := r + 1) (by omega) (by omega) (ia 16 (upd K l.length (nI q.1)))
  have s2 := s1.set (t := r + 2) (by omega) (by omega) (ia 16 (upd H l.length (nI q.2.1)))
  have s3 := s2.set (t := r + 3) (by omega) (by omega) (ia 16 (upd Hc l.length (nI (hbN q.2.1 0 + hbN q.2.1 1))))
  have s4 := s3.set (t := r + 4) (by omega) (by omega) (ia 16 (upd Hv l.length (nI (hbN q.2.1 1))))
  have s5 := s4.set (t := r + 5) (by omega) (by omega) (ia 16 (upd F l.length (nI q.2.2.1)))
  have s6 := s5.set (t := r + 6) (by omega) (by omega) (ia 16 (upd La l.length (nI q.2.2.2.1)))
  have s7 := s6.set (t := r + 7) (by omega) (by omega) (ia 16 (upd A l.length (nI q.2.2.2.2)))
  have s8 := s7.set (t := r) (by omega) (by omega) (.inl (3, [.int (nI (l.length + 1)), .ref (r + 1), .ref (r + 2), .ref (r + 3), .ref (r + 4), .ref (r + 5), .ref (r + 6), .ref (r + 7)]))
  refine ⟨_, ?_, LsF.lst (l := l ++ [q]) (by rw [List.length_append]; exact T8) (by rw [List.length_append]; exact hl) (fun x hx => ?_) (fun j hjl => ?_), s8⟩
  · rw [n_X3_append]
    have hc := L.c
    simp (disch := first | assumption | omega) only [e_X3_append_0, e_X3_append_1, e_X3_append_2, e_X3_append_3, e_X3_append_4, e_X3_append_5, e_X3_append_6, e_X3_append_7, e_X3_append_8, e_X3_append_9, e_X3_append_10, e_X3_append_11, e_X3_append_12, e_X3_append_13, e_X3_append_14, e_X3_append_15, e_X3_append_16, e_X3_append_17, e_X3_append_18, e_X3_append_19, e_X3_append_20, e_X3_append_21, e_X3_append_22, e_X3_append_23, e_X3_append_24, e_X3_append_25, e_X3_append_26, e_X3_append_27, e_X3_append_28, e_X3_append_29, e_X3_append_30, e_X3_append_31, e_X3_append_32, e_X3_append_33, e_X3_append_34, e_X3_append_35, e_X3_append_36, e_X3_append_37, e_X3_append_38, e_X3_append_39, e_X3_append_40, e_X3_append_41, e_X3_append_42, e_X3_append_43, e_X3_append_44, e_X3_append_45, e_X3_append_46, e_X3_append_47, e_X3_append_48, e_X3_append_49, e_X3_append_50, e_X3_append_51, e_X3_append_52, e_X3_append_53, e_X3_append_54, e_X3_append_55, e_X3_append_56, e_X3_append_57, e_X3_append_58, e_X3_append_59, e_X3_append_60, e_X3_append_61, T.f0, T.f1, T.s1, T1.f0, T1.f2, T1.s2, T2.f0, T2.f3, T2.s3, T3.f0, T3.f4, T3.s4, T4.f0, T4.f5, T4.s5, T5.f0, T5.f6, T5.s6, T6.f0, T6.f7, T6.s7, T7.f0, T7.s0, Option.bind_some, q_headBits, xbk_i, nI_ltI, nI_add, if_t]
  · rcases List.mem_append.mp hx with hx | hx
    · exact L.2.1 x hx
    · rw [List.mem_singleton.mp hx]; exact hq
  · by_cases hjl2 : j < l.length
    · rw [rlN_app_l hjl2]
      have hne : j ≠ l.length := by omega
      simp only [upd_n hne]
      exact hj j hjl2
    · have hje : j = l.length := by simp at hjl; omega
      subst hje
      rw [rlN_app_r]
      exact ⟨upd_s, upd_s, upd_s, upd_s, upd_s, upd_s, upd_s⟩
theorem q_removeR (L : Lst h r l) {d i : Nat} (hi : i < l.length) : ∃ h', xc XP d 20 [.ref r, .int (nI i)] h = some (none, h') ∧ Lst h' r (l.eraseIdx i) ∧ Same h h' r (r + 8) := by
  have h16 := L.1
  obtain ⟨K0, H0, Hc0, Hv0, F0', La0, A0, T0, hj0⟩ := L.cells
  rw [n_X3_remove]
  simp (disch := first | assumption | omega) only [e_X3_remove_0, e_X3_remove_1, e_X3_remove_2, e_X3_remove_3, e_X3_remove_4, e_X3_remove_5, e_X3_remove_6, e_X3_remove_7, e_X3_remove_8, T0.f0, Option.bind_some, nI_lt0, nI_ltI, if_f, if_t]
  have key : ∀ m j, j + 1 + m = l.length → ∀ (h1 : XH) (K H Hc Hv F La A : Nat → Int32), LsF h1 r l.length K H Hc Hv F La A → Same h h1 r (r + 8) →
      (∀ k, k < l.length → ∀ z, z = (if i ≤ k ∧ k < j then k + 1 else k) → K k = nI (rlN l z).1 ∧ H k = nI (rlN l z).2.1 ∧ Hc k = nI (hcN (rlN l z).2.1) ∧ Hv k = nI (hvN (rlN l z).2.1) ∧ F k = nI (rlN l z).2.2.1 ∧ La k = nI (rlN l z).2.2.2.1 ∧ A k = nI (rlN l z).2.2.2.2) → i ≤ j →
      ∃ h', xe XP d 20 (9, [.ref r, .int (nI i), .int (nI j)], [], h1) = some (none, h') ∧ Lst h' r (l.eraseIdx i) ∧ Same h h' r (r + 8) := by
    intro m
    induction m with
    | zero =>
      intro j hj h1 K H Hc Hv F La A T s hv hij
      have Tz := T.w0 (l.length - 1)
      have sz := s.set (t := r) (by omega) (by omega) (.inl (3, [.int (nI (l.length - 1)), .ref (r + 1), .ref (r + 2), .ref (r + 3), .ref (r + 4), .ref (r + 5), .ref (r + 6), .ref (r + 7)]))
      have hlen : (l.eraseIdx i).length = l.length - 1 := by rw [List.length_eraseIdx]; simp [hi]
      refine ⟨_, ?_, LsF.lst (l := l.eraseIdx i) (by rw [hlen]; exact Tz) (by omega) (fun x hx => L.2.1 x (List.mem_of_mem_eraseIdx hx)) (fun k hk => ?_), sz⟩
      · simp (disch := first | assumption | omega) only [e_X3_remove_9, e_X3_remove_10, e_X3_remove_11, e_X3_remove_12, e_X3_remove_13, e_X3_remove_14, e_X3_remove_87, e_X3_remove_88, e_X3_remove_89, e_X3_remove_90, e_X3_remove_91, e_X3_remove_92, e_X3_remove_93, T.f0, T.s0, Option.bind_some, nI_add, nI_leI, if_t, pk_sub]
      · rw [hlen] at hk
        rw [rlN_del]
        by_cases hki : k < i
        · rw [if_pos hki]
          exact hv k (by omega) k (by rw [if_neg (by omega)])
        · rw [if_neg hki]
          exact hv k (by omega) (k + 1) (by rw [if_pos (by omega)])
    | succ m ih =>
      intro j hj h1 K H Hc Hv F La A T s hv hij
      have T1 := T.w1 (upd K j (K (j + 1)))
      have T2 := T1.w2 (upd H j (H (j + 1)))
      have T3 := T2.w3 (upd Hc j (Hc (j + 1)))
      have T4 := T3.w4 (upd Hv j (Hv (j + 1)))
      have T5 := T4.w5 (upd F j (F (j + 1)))
      have T6 := T5.w6 (upd La j (La (j + 1)))
      have T7 := T6.w7 (upd A j (A (j + 1)))
      have s1 := s.set (t := r + 1) (by omega) (by omega) (ia 16 (upd K j (K (j + 1))))
      have s2 := s1.set (t := r + 2) (by omega) (by omega) (ia 16 (upd H j (H (j + 1))))
      have s3 := s2.set (t := r + 3) (by omega) (by omega) (ia 16 (upd Hc j (Hc (j + 1))))
      have s4 := s3.set (t := r + 4) (by omega) (by omega) (ia 16 (upd Hv j (Hv (j + 1))))
      have s5 := s4.set (t := r + 5) (by omega) (by omega) (ia 16 (upd F j (F (j + 1))))
      have s6 := s5.set (t := r + 6) (by omega) (by omega) (ia 16 (upd La j (La (j + 1))))
      have s7 := s6.set (t := r + 7) (by omega) (by omega) (ia 16 (upd A j (A (j + 1))))
      rw [e_X3_remove_9]
      simp (disch := first | assumption | omega) only [e_X3_remove_10, e_X3_remove_11, e_X3_remove_12, e_X3_remove_13, e_X3_remove_14, e_X3_remove_15, e_X3_remove_16, e_X3_remove_17, e_X3_remove_18, e_X3_remove_19, e_X3_remove_20, e_X3_remove_21, e_X3_remove_22, e_X3_remove_23, e_X3_remove_24, e_X3_remove_25, e_X3_remove_26, e_X3_remove_27, e_X3_remove_28, e_X3_remove_29, e_X3_remove_30, e_X3_remove_31, e_X3_remove_32, e_X3_remove_33, e_X3_remove_34, e_X3_remove_35, e_X3_remove_36, e_X3_remove_37, e_X3_remove_38, e_X3_remove_39, e_X3_remove_40, e_X3_remove_41, e_X3_remove_42, e_X3_remove_43, e_X3_remove_44, e_X3_remove_45, e_X3_remove_46, e_X3_remove_47, e_X3_remove_48, e_X3_remove_49, e_X3_remove_50, e_X3_remove_51, e_X3_remove_52, e_X3_remove_53, e_X3_remove_54, e_X3_remove_55, e_X3_remove_56, e_X3_remove_57, e_X3_remove_58, e_X3_remove_59, e_X3_remove_60, e_X3_remove_61, e_X3_remove_62, e_X3_remove_63, e_X3_remove_64, e_X3_remove_65, e_X3_remove_66, e_X3_remove_67, e_X3_remove_68, e_X3_remove_69, e_X3_remove_70, e_X3_remove_71, e_X3_remove_72, e_X3_remove_73, e_X3_remove_74, e_X3_remove_75, e_X3_remove_76, e_X3_remove_77, e_X3_remove_78, e_X3_remove_79, e_X3_remove_80, e_X3_remove_81, e_X3_remove_82, e_X3_remove_83, e_X3_remove_84, e_X3_remove_85, e_X3_remove_86, T.f0, T.f1, T.l1, T.s1, T1.f2, T1.l2, T1.s2, T2.f3, T2.l3, T2.s3, T3.f4, T3.l4, T3.s4, T4.f5, T4.l5, T4.s5, T5.f6, T5.l6, T5.s6, T6.f7, T6.l7, T6.s7, Option.bind_some, nI_add, nI_leI, if_f]
      refine ih (j + 1) (by omega) _ _ _ _ _ _ _ _ T7 s7 (fun k hk z hz => ?_) (by omega)
      by_cases hkj : k = j
      · subst hkj
        simp only [upd_s]
        exact hv (k + 1) (by omega) z (by rw [hz, if_pos (by omega), if_neg (by omega)])
      · simp only [upd_n hkj]
        refine hv k hk z ?_
        rw [hz]
        by_cases g : i ≤ k ∧ k < j
        · rw [if_pos g, if_pos (by omega)]
        · rw [if_neg g, if_neg (by omega)]
  exact key (l.length - 1 - i) i (by omega) h K0 H0 Hc0 Hv0 F0' La0 A0 T0 (Same.refl _ _ _) (fun k hk z hz => by rw [if_neg (by omega)] at hz; rw [hz]; exact hj0 k hk) (Nat.le_refl _)
theorem q_copyFromR {r2 : Nat} {l2 : List Rl} (L : Lst h r l) (L2 : Lst h r2 l2) (hd : r + 8 ≤ r2 ∨ r2 + 8 ≤ r) {d : Nat} : ∃ h', xc XP d 18 [.ref r, .ref r2] h = some (none, h') ∧ Lst h' r l2 ∧ Same h h' r (r + 8) := by
  have h16 := L2.1
  obtain ⟨K, H, Hc, Hv, F, La, A, T, -⟩ := L.cells
  obtain ⟨K2, H2, Hc2, Hv2, F2, La2, A2, B, hj⟩ := L2.cells
  have T0 := T.w0 l2.length
  have s0 := (Same.refl h r (r + 8)).set (t := r) (by omega) (by omega) (.inl (3, [.int (nI l2.length), .ref (r + 1), .ref (r + 2), .ref (r + 3), .ref (r + 4), .ref (r + 5), .ref (r + 6), .ref (r + 7)]))
  have B0 := B.same s0 (by omega)
  have T1 := T0.w1 (va_cpy K2 K 0 0 16)
  have s1 := s0.set (t := r + 1) (by omega) (by omega) (ia 16 (va_cpy K2 K 0 0 16))
  have B1 := B.same s1 (by omega)
  have T2 := T1.w2 (va_cpy H2 H 0 0 16)
  have s2 := s1.set (t := r + 2) (by omega) (by omega) (ia 16 (va_cpy H2 H 0 0 16))
  have B2 := B.same s2 (by omega)
  have T3 := T2.w3 (va_cpy Hc2 Hc 0 0 16)
  have s3 := s2.set (t := r + 3) (by omega) (by omega) (ia 16 (va_cpy Hc2 Hc 0 0 16))
  have B3 := B.same s3 (by omega)
  have T4 := T3.w4 (va_cpy Hv2 Hv 0 0 16)
  have s4 := s3.set (t := r + 4) (by omega) (by omega) (ia 16 (va_cpy Hv2 Hv 0 0 16))
  have B4 := B.same s4 (by omega)
  have T5 := T4.w5 (va_cpy F2 F 0 0 16)
  have s5 := s4.set (t := r + 5) (by omega) (by omega) (ia 16 (va_cpy F2 F 0 0 16))
  have B5 := B.same s5 (by omega)
  have T6 := T5.w6 (va_cpy La2 La 0 0 16)
  have s6 := s5.set (t := r + 6) (by omega) (by omega) (ia 16 (va_cpy La2 La 0 0 16))
  have B6 := B.same s6 (by omega)
  have T7 := T6.w7 (va_cpy A2 A 0 0 16)
  have s7 := s6.set (t := r + 7) (by omega) (by omega) (ia 16 (va_cpy A2 A 0 0 16))
  have B7 := B.same s7 (by omega)
  have c1 := xcp_ia B0.2.1 T0.2.1 (by decide)
  have c2 := xcp_ia B1.2.2.1 T1.2.2.1 (by decide)
  have c3 := xcp_ia B2.2.2.2.1 T2.2.2.2.1 (by decide)
  have c4 := xcp_ia B3.2.2.2.2.1 T3.2.2.2.2.1 (by decide)
  have c5 := xcp_ia B4.2.2.2.2.2.1 T4.2.2.2.2.2.1 (by decide)
  have c6 := xcp_ia B5.2.2.2.2.2.2.1 T5.2.2.2.2.2.2.1 (by decide)
  have c7 := xcp_ia B6.2.2.2.2.2.2.2 T6.2.2.2.2.2.2.2 (by decide)
  refine ⟨_, ?_, LsF.lst T7 h16 L2.2.1 (fun j hjl => ?_), s7⟩
  · rw [n_X3_copyFrom]
    simp (disch := first | assumption | omega) only [e_X3_copyFrom_0, e_X3_copyFrom_1, e_X3_copyFrom_2, e_X3_copyFrom_3, e_X3_copyFrom_4, e_X3_copyFrom_5, e_X3_copyFrom_6, e_X3_copyFrom_7, e_X3_copyFrom_8, e_X3_copyFrom_9, e_X3_copyFrom_10, e_X3_copyFrom_11, e_X3_copyFrom_12, e_X3_copyFrom_13, e_X3_copyFrom_14, e_X3_copyFrom_15, e_X3_copyFrom_16, e_X3_copyFrom_17, e_X3_copyFrom_18, e_X3_copyFrom_19, e_X3_copyFrom_20, e_X3_copyFrom_21, e_X3_copyFrom_22, e_X3_copyFrom_23, e_X3_copyFrom_24, e_X3_copyFrom_25, e_X3_copyFrom_26, e_X3_copyFrom_27, e_X3_copyFrom_28, e_X3_copyFrom_29, e_X3_copyFrom_30, e_X3_copyFrom_31, e_X3_copyFrom_32, e_X3_copyFrom_33, e_X3_copyFrom_34, e_X3_copyFrom_35, e_X3_copyFrom_36, e_X3_copyFrom_37, e_X3_copyFrom_38, e_X3_copyFrom_39, e_X3_copyFrom_40, e_X3_copyFrom_41, e_X3_copyFrom_42, e_X3_copyFrom_43, e_X3_copyFrom_44, e_X3_copyFrom_45, e_X3_copyFrom_46, e_X3_copyFrom_47, e_X3_copyFrom_48, e_X3_copyFrom_49, e_X3_copyFrom_50, e_X3_copyFrom_51, e_X3_copyFrom_52, e_X3_copyFrom_53, e_X3_copyFrom_54, e_X3_copyFrom_55, e_X3_copyFrom_56, e_X3_copyFrom_57, e_X3_copyFrom_58, e_X3_copyFrom_59, e_X3_copyFrom_60, B.f0, T.s0, B0.f1, T0.f1, c1, B1.f2, T1.f2, c2, B2.f3, T2.f3, c3, B3.f4, T3.f4, c4, B4.f5, T4.f5, c5, B5.f6, T5.f6, c6, B6.f7, T6.f7, c7, Option.bind_some]
  · have hj16 : j < 16 := by omega
    simp only [cpy0 hj16]
    exact hj j hjl
end LstW
