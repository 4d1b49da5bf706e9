/-! THE MODEL: its object; the list's answers by it -/
def MdO (h : XH) (m : Nat) (cm ca lm ra nu nr mm nm : Int32) : Prop := h[m]? = some (.inl (8, [.ref (m + 1), .ref (m + 2), .int cm, .int ca, .ref (m + 3), .ref (m + 4), .ref (m + 5), .int lm, .int ra, .int nu, .int nr, .ref (m + 6), .ref (m + 7), .int mm, .ref (m + 8), .ref (m + 9), .int nm, .ref (m + 10), .ref (m + 11), .ref (m + 12)]))
theorem lsB_has {l : List Rl} {but : Option Nat} {k : Nat} : ∀ n j, itr (lsF l but k) none n = some j → hasR (rlN l j) k = true := by
  intro n
  induction n with
  | zero => intro j h; cases h
  | succ n ih =>
    intro j h
    have h : lsF l but k n (itr (lsF l but k) none n) = some j := h
    unfold lsF at h
    split at h
    · next hc =>
      cases h
      simp only [Bool.and_eq_true] at hc
      exact hc.2.2
    · exact ih j h
theorem lsB_but {l : List Rl} {r k : Nat} (hn : hasR (rlN l r) k = false) : lsB l (some r) k = lsB l none k := by
  unfold lsB
  refine itr_congr (fun j x hj => ?_)
  unfold lsF
  by_cases g : j = r
  · subst g
    simp [hn]
  · simp [g]
section MdR
variable {h : XH} {m : Nat} {cm ca lm ra nu nr mm nm : Int32} {f : Nat → Int32} {l : List Rl} {σ : Sl} {d : Nat}
theorem MdO.k (M : MdO h m cm ca lm ra nu nr mm nm) : xcls h (.ref m) = some 8 := xcls_o M
theorem MdO.f0 (M : MdO h m cm ca lm ra nu nr mm nm) : xgf h m 8 0 = some (.ref (m + 1)) := xgf_o M 0
theorem MdO.f1 (M : MdO h m cm ca lm ra nu nr mm nm) : xgf h m 8 1 = some (.ref (m + 2)) := xgf_o M 1
theorem MdO.f2 (M : MdO h m cm ca lm ra nu nr mm nm) : xgf h m 8 2 = some (.int cm) := xgf_o M 2
theorem MdO.f3 (M : MdO h m cm ca lm ra nu nr mm nm) : xgf h m 8 3 = some (.int ca) := xgf_o M 3
theorem MdO.f4 (M : MdO h m cm ca lm ra nu nr mm nm) : xgf h m 8 4 = some (.ref (m + 3)) := xgf_o M 4
theorem MdO.f5 (M : MdO h m cm ca lm ra nu nr mm nm) : xgf h m 8 5 = some (.ref (m + 4)) := xgf_o M 5
theorem MdO.f6 (M : MdO h m cm ca lm ra nu nr mm nm) : xgf h m 8 6 = some (.ref (m + 5)) := xgf_o M 6
theorem MdO.f7 (M : MdO h m cm ca lm ra nu nr mm nm) : xgf h m 8 7 = some (.int lm) := xgf_o M 7
theorem MdO.f8 (M : MdO h m cm ca lm ra nu nr mm nm) : xgf h m 8 8 = some (.int ra) := xgf_o M 8
theorem MdO.f9 (M : MdO h m cm ca lm ra nu nr mm nm) : xgf h m 8 9 = some (.int nu) := xgf_o M 9
theorem MdO.f10 (M : MdO h m cm ca lm ra nu nr mm nm) : xgf h m 8 10 = some (.int nr) := xgf_o M 10
theorem MdO.f11 (M : MdO h m cm ca lm ra nu nr mm nm) : xgf h m 8 11 = some (.ref (m + 6)) := xgf_o M 11
theorem MdO.f12 (M : MdO h m cm ca lm ra nu nr mm nm) : xgf h m 8 12 = some (.ref (m + 7)) := xgf_o M 12
theorem MdO.f13 (M : MdO h m cm ca lm ra nu nr mm nm) : xgf h m 8 13 = some (.int mm) := xgf_o M 13
theorem MdO.f14 (M : MdO h m cm ca lm ra nu nr mm nm) : xgf h m 8 14 = some (.ref (m + 8)) := xgf_o M 14
theorem MdO.f15 (M : MdO h m cm ca lm ra nu nr mm nm) : xgf h m 8 15 = some (.ref (m + 9)) := xgf_o M 15
theorem MdO.f16 (M : MdO h m cm ca lm ra nu nr mm nm) : xgf h m 8 16 = some (.int nm) := xgf_o M 16
theorem MdO.f17 (M : MdO h m cm ca lm ra nu nr mm nm) : xgf h m 8 17 = some (.ref (m + 10)) := xgf_o M 17
theorem MdO.f18 (M : MdO h m cm ca lm ra nu nr mm nm) : xgf h m 8 18 = some (.ref (m + 11)) := xgf_o M 18
theorem MdO.f19 (M : MdO h m cm ca lm ra nu nr mm nm) : xgf h m 8 19 = some (.ref (m + 12)) := xgf_o M 19
theorem q_listRule (M : MdO h m cm ca lm ra nu nr mm nm) (A : h[m + 1]? = some (ia 113 f)) (L : RwL f l) {k : Nat} {but : Option Nat} (hb : ∀ j, but = some j → j < l.length) (hk : k < 128) : xc XP (d + 2) 124 [.ref m, .int (nI k), .int (oI but)] h = some (some (.int (oI (lsB l but k))), h) := by
  have L' := L
  obtain ⟨l1, l2, l3, l4⟩ := L
  rw [n_X8_listRule]
  simp only [e_X8_listRule_0, e_X8_listRule_1, e_X8_listRule_2, e_X8_listRule_3]
  have key := loop_itr (fun j b => xe XP (d + 2) 124 (4, [.ref m, .int (nI k), .int (oI but), .int (oI b), .int (nI j)], [], h)) (lsF l but k) none l.length (by
    intro j hj
    have hlt := lsB_lt (l := l) (but := but) (k := k) j
    generalize itr (lsF l but k) none j = b at hlt
    have hv := (l2 _ (rlN_mem hj)).1
    have rj := (l4 j hj).1
    rw [e_X8_listRule_4]
    have hbut : (nI j = oI but) = (some j = but) := by
      cases but with
      | none => simp [oI, nI_n4 (show j < 2 ^ 31 by omega)]
      | some i =>
        have := hb i rfl
        simp only [oI_some, Option.some.injEq, eq_iff_iff]
        exact nI_eq (by omega) (by omega)
    cases b with
    | none =>
      simp (disch := first | assumption | omega) only [e_X8_listRule_5, e_X8_listRule_6, e_X8_listRule_7, e_X8_listRule_8, e_X8_listRule_9, e_X8_listRule_10, e_X8_listRule_11, e_X8_listRule_12, e_X8_listRule_13, e_X8_listRule_14, e_X8_listRule_15, e_X8_listRule_16, e_X8_listRule_17, e_X8_listRule_18, e_X8_listRule_19, e_X8_listRule_20, e_X8_listRule_21, e_X8_listRule_22, e_X8_listRule_23, e_X8_listRule_24, e_X8_listRule_25, e_X8_listRule_26, e_X8_listRule_27, e_X8_listRule_28, e_X8_listRule_29, e_X8_listRule_30, e_X8_listRule_31, e_X8_listRule_32, e_X8_listRule_33, e_X8_listRule_34, e_X8_listRule_35, e_X8_listRule_36, e_X8_listRule_37, e_X8_listRule_38, M.f0, ra_ld A, l3, Option.bind_some, nI_leI, nI_add, if_f, hbut, oI_none, if_true, q_hasM A L', xbk_i, bI_0]
      unfold lsF
      by_cases g : some j = but <;> cases hasR (rlN l j) k <;> simp [g, oI, btr]
    | some i =>
      have hij := hlt i rfl
      have hvi := (l2 _ (rlN_mem (show i < l.length by omega))).1
      have ri := (l4 i (by omega)).1
      have hi4 : ¬ nI i = -4 := nI_n4 (by omega)
      simp (disch := first | assumption | omega) only [e_X8_listRule_5, e_X8_listRule_6, e_X8_listRule_7, e_X8_listRule_8, e_X8_listRule_9, e_X8_listRule_10, e_X8_listRule_11, e_X8_listRule_12, e_X8_listRule_13, e_X8_listRule_14, e_X8_listRule_15, e_X8_listRule_16, e_X8_listRule_17, e_X8_listRule_18, e_X8_listRule_19, e_X8_listRule_20, e_X8_listRule_21, e_X8_listRule_22, e_X8_listRule_23, e_X8_listRule_24, e_X8_listRule_25, e_X8_listRule_26, e_X8_listRule_27, e_X8_listRule_28, e_X8_listRule_29, e_X8_listRule_30, e_X8_listRule_31, e_X8_listRule_32, e_X8_listRule_33, e_X8_listRule_34, e_X8_listRule_35, e_X8_listRule_36, e_X8_listRule_37, e_X8_listRule_38, M.f0, ra_ld A, l3, ri, rj, Option.bind_some, nI_leI, nI_add, if_f, hbut, oI_some, hi4, if_false, q_hasM A L', xbk_i, bI_0]
      unfold lsF
      by_cases g : some j = but
      · simp [g, oI]
      · by_cases g2 : (rlN l i).1 ≤ (rlN l j).1
        · cases hasR (rlN l j) k <;> simp [g, g2, oI, btr, Nat.not_lt.mpr g2]
        · cases hasR (rlN l j) k <;> simp [g, g2, oI, btr, Nat.not_le.mp g2]) l.length (Nat.le_refl _)
  rw [show (-4 : Int32) = oI none from rfl, key]
  simp (disch := first | assumption | omega) only [e_X8_listRule_4, e_X8_listRule_5, e_X8_listRule_6, e_X8_listRule_7, e_X8_listRule_8, e_X8_listRule_9, e_X8_listRule_39, e_X8_listRule_40, M.f0, ra_ld A, l3, Option.bind_some, nI_leI, if_t, Nat.le_refl, if_true]
  rfl
theorem q_answerBy (M : MdO h m cm ca lm ra nu nr mm nm) (A : h[m + 1]? = some (ia 113 f)) (L : RwL f l) {o : Option Nat} (ho : ∀ j, o = some j → j < l.length) : xc XP d 125 [.ref m, .int (oI o)] h = some (some (.int (ansR l o)), h) := by
  obtain ⟨l1, l2, l3, l4⟩ := L
  rw [n_X8_answerBy]
  cases o with
  | none =>
    simp only [e_X8_answerBy_0, e_X8_answerBy_1, e_X8_answerBy_2, e_X8_answerBy_3, e_X8_answerBy_10, oI_none, m4_ge0, if_false]
    rfl
  | some j =>
    have hj := ho j rfl
    have rj := (l4 j hj).2.2.2.2
    simp (disch := first | assumption | omega) only [e_X8_answerBy_0, e_X8_answerBy_1, e_X8_answerBy_2, e_X8_answerBy_3, e_X8_answerBy_4, e_X8_answerBy_5, e_X8_answerBy_6, e_X8_answerBy_7, e_X8_answerBy_8, e_X8_answerBy_9, e_X8_answerBy_10, oI_some, nI_ge0, if_t, M.f0, nI_add, ra_ld A, Option.bind_some, rj]
    rfl
theorem q_isCoveredM (M : MdO h m cm ca lm ra nu nr mm nm) (A : h[m + 1]? = some (ia 113 f)) (L : RwL f l) {r : Nat} (hr : r < l.length) : xc XP (d + 3) 126 [.ref m, .int (nI r)] h = some (some (.int (bI (covB l r))), h) := by
  have c0 := M.k
  have l1 := L.1
  rw [n_X8_isCovered]
  simp only [e_X8_isCovered_0, e_X8_isCovered_1, e_X8_isCovered_2, e_X8_isCovered_3]
  have key := loop_itr (fun k b => xe XP (d + 3) 126 (4, [.ref m, .int (nI r), .int (bI b), .int (nI k)], [], h)) (fun k b => b && !kyB l r k) true 128 (by
    intro k hk
    generalize itr (fun k b => b && !kyB l r k) true k = b
    have ql := q_listRule (d := d) M A L (but := none) (k := k) (fun j hj => by cases hj) hk
    rw [oI_none] at ql
    have he : (oI (lsB l none k) = nI r) = (lsB l none k = some r) := oI_eq (fun j hj => by have := lsB_len hj; omega) (by omega)
    rw [e_X8_isCovered_4]
    simp (disch := first | assumption | omega) only [e_X8_isCovered_5, e_X8_isCovered_6, e_X8_isCovered_7, e_X8_isCovered_8, e_X8_isCovered_9, e_X8_isCovered_10, e_X8_isCovered_11, e_X8_isCovered_12, e_X8_isCovered_13, e_X8_isCovered_14, e_X8_isCovered_15, e_X8_isCovered_16, e_X8_isCovered_17, e_X8_isCovered_18, e_X8_isCovered_19, e_X8_isCovered_20, e_X8_isCovered_21, e_X8_isCovered_22, e_X8_isCovered_23, e_X8_isCovered_24, e_X8_isCovered_25, e_X8_isCovered_26, nI_leI, if_f, M.f0, Option.bind_some, q_hasM A L, xbk_i, bI_0, ql, he, nI_add]
    unfold kyB
    cases b
    · rfl
    · cases hasR (rlN l r) k
      · rfl
      · by_cases g : lsB l none k = some r <;> simp [g, bI]) 128 (Nat.le_refl _)
  rw [show nI 1 = bI true from rfl, key, itr_and]
  simp (disch := first | assumption | omega) only [e_X8_isCovered_4, e_X8_isCovered_5, e_X8_isCovered_6, e_X8_isCovered_27, e_X8_isCovered_28, nI_leI, if_t, bI_rk, if_true, Nat.le_refl, Bool.not_not]
  rfl
theorem q_isIdleM (M : MdO h m cm ca lm ra nu nr mm nm) (A : h[m + 1]? = some (ia 113 f)) (L : RwL f l) {r : Nat} (hr : r < l.length) : xc XP (d + 3) 127 [.ref m, .int (nI r)] h = some (some (.int (bI (idlB l r))), h) := by
  have c0 := M.k
  have l1 := L.1
  rw [n_X8_isIdle]
  simp only [e_X8_isIdle_0, e_X8_isIdle_1, e_X8_isIdle_2, e_X8_isIdle_3]
  have key := loop_itr (fun k b => xe XP (d + 3) 127 (4, [.ref m, .int (nI r), .int (bI b), .int (nI k)], [], h)) (fun k b => b && !idB l r k) true 128 (by
    intro k hk
    generalize itr (fun k b => b && !idB l r k) true k = b
    have ql := q_listRule (d := d) M A L (but := none) (k := k) (fun j hj => by cases hj) hk
    rw [oI_none] at ql
    have qr := q_listRule (d := d) M A L (but := some r) (k := k) (fun j hj => by cases hj; exact hr) hk
    rw [oI_some] at qr
    have a1 := q_answerBy (d := d + 2) M A L (o := lsB l none k) (fun j hj => lsB_len hj)
    have a2 := q_answerBy (d := d + 2) M A L (o := lsB l (some r) k) (fun j hj => lsB_len hj)
    rw [e_X8_isIdle_4]
    simp (disch := first | assumption | omega) only [e_X8_isIdle_5, e_X8_isIdle_6, e_X8_isIdle_7, e_X8_isIdle_8, e_X8_isIdle_9, e_X8_isIdle_10, e_X8_isIdle_11, e_X8_isIdle_12, e_X8_isIdle_13, e_X8_isIdle_14, e_X8_isIdle_15, e_X8_isIdle_16, e_X8_isIdle_17, e_X8_isIdle_18, e_X8_isIdle_19, e_X8_isIdle_20, e_X8_isIdle_21, e_X8_isIdle_22, e_X8_isIdle_23, e_X8_isIdle_24, e_X8_isIdle_25, e_X8_isIdle_26, e_X8_isIdle_27, nI_leI, if_f, xbk_i, bI_0, ql, qr, a1, a2, nI_add]
    unfold idB
    cases b
    · rfl
    · cases hh : hasR (rlN l r) k
      · rw [lsB_but hh]
        simp [bI]
      · by_cases g : ansR l (lsB l none k) = ansR l (lsB l (some r) k) <;> simp [g, bI]) 128 (Nat.le_refl _)
  rw [show nI 1 = bI true from rfl, key, itr_and]
  simp (disch := first | assumption | omega) only [e_X8_isIdle_4, e_X8_isIdle_5, e_X8_isIdle_6, e_X8_isIdle_28, e_X8_isIdle_29, nI_leI, if_t, bI_rk, if_true, Nat.le_refl, Bool.not_not]
  rfl
end MdR
