/-! THE TEXT, the logs of moves, the past -/
def Txt (h : XH) (x : Nat) (tx : List Nat) : Prop := tx.length ≤ 200 ∧ (∀ c ∈ tx, c < 1000) ∧ h[x]? = some (.inl (6, [.ref (x + 1), .int (nI tx.length)])) ∧ ∃ f, h[x + 1]? = some (ia 200 f) ∧ ∀ j c, tx[j]? = some c → f j = nI c
section TxtR
variable {h : XH} {x : Nat} {tx : List Nat}
theorem Txt.c (T : Txt h x tx) : xcls h (.ref x) = some 6 := xcls_o T.2.2.1
theorem Txt.f0 (T : Txt h x tx) : xgf h x 6 0 = some (.ref (x + 1)) := xgf_o T.2.2.1 0
theorem Txt.f1 (T : Txt h x tx) : xgf h x 6 1 = some (.int (nI tx.length)) := xgf_o T.2.2.1 1
theorem Txt.same {h' : XH} (T : Txt h x tx) {lo hi : Nat} (s : Same h h' lo hi) (hd : x + 2 ≤ lo ∨ hi ≤ x) : Txt h' x tx := by
  obtain ⟨h1, h2, h3, f, h4, h5⟩ := T
  exact ⟨h1, h2, by rw [s.2 _ (by omega)]; exact h3, f, by rw [s.2 _ (by omega)]; exact h4, h5⟩
/-- the letter at a place -/
def ltA (tx : List Nat) (i : Nat) : Int32 := oI tx[i]?
theorem q_letterAt (T : Txt h x tx) {d i : Nat} (hi : i < 2 ^ 30) : xc XP d 76 [.ref x, .int (nI i)] h = some (some (.int (ltA tx i)), h) := by
  have h200 := T.1
  obtain ⟨-, -, -, f, e1, hf⟩ := id T
  rw [n_X6_letterAt]
  by_cases g : i < tx.length
  · have hl := xld_ia e1 (by decide) (show i < 200 by omega)
    simp (disch := first | assumption | omega) only [e_X6_letterAt_0, e_X6_letterAt_1, e_X6_letterAt_2, e_X6_letterAt_3, e_X6_letterAt_4, e_X6_letterAt_5, e_X6_letterAt_6, e_X6_letterAt_7, e_X6_letterAt_8, e_X6_letterAt_9, e_X6_letterAt_10, e_X6_letterAt_11, e_X6_letterAt_12, T.f0, T.f1, Option.bind_some, nI_lt0, nI_leI, if_f, hl]
    have hx := List.getElem?_eq_getElem g
    unfold ltA
    rw [hx, hf i _ hx]
    rfl
  · simp (disch := first | assumption | omega) only [e_X6_letterAt_0, e_X6_letterAt_1, e_X6_letterAt_2, e_X6_letterAt_3, e_X6_letterAt_4, e_X6_letterAt_5, e_X6_letterAt_6, e_X6_letterAt_7, e_X6_letterAt_8, e_X6_letterAt_9, e_X6_letterAt_10, e_X6_letterAt_11, e_X6_letterAt_12, T.f0, T.f1, Option.bind_some, nI_lt0, nI_leI, if_f, if_t]
    unfold ltA
    rw [List.getElem?_eq_none (by omega)]
    rfl
theorem q_appendT (T : Txt h x tx) {d c : Nat} (hc : c < 1000) (hl : tx.length < 200) : ∃ h', xc XP d 75 [.ref x, .int (nI c)] h = some (some (.int (nI 1)), h') ∧ Txt h' x (tx ++ [c]) ∧ Same h h' x (x + 2) := by
  obtain ⟨h1, h2, h3, f, h4, h5⟩ := id T
  have hs := xst_ia h4 (by decide) hl (nI c)
  have e3 : (h.set (x + 1) (ia 200 (upd f tx.length (nI c))))[x]? = some (.inl (6, [.ref (x + 1), .int (nI tx.length)])) := by rw [get_ne _ (by omega)]; exact h3
  have g1 := xgf_o e3 1
  have p1 := xpf_o e3 (k := 1) (by simp) (.int (nI (tx.length + 1)))
  refine ⟨_, ?_, ⟨?_, ?_, ?_, upd f tx.length (nI c), ?_, ?_⟩, ((Same.refl h x (x + 2)).set (t := x + 1) (by omega) (by omega) (ia 200 (upd f tx.length (nI c)))).set (t := x) (by omega) (by omega) (.inl (6, [.ref (x + 1), .int (nI (tx.length + 1))]))⟩
  · rw [n_X6_append]
    simp (disch := first | assumption | omega) only [e_X6_append_0, e_X6_append_1, e_X6_append_2, e_X6_append_3, e_X6_append_4, e_X6_append_5, e_X6_append_6, e_X6_append_7, e_X6_append_8, e_X6_append_9, e_X6_append_10, e_X6_append_11, e_X6_append_12, e_X6_append_13, e_X6_append_14, e_X6_append_15, e_X6_append_16, e_X6_append_17, e_X6_append_18, e_X6_append_19, T.f0, T.f1, Option.bind_some, nI_ltI, if_t, hs, g1, List.getElem?_cons_succ, List.getElem?_cons_zero, nI_add, p1, rk_1, if_true, List.set_cons_succ, List.set_cons_zero]
  · rw [List.length_append]; exact hl
  · intro y hy
    rcases List.mem_append.mp hy with hy | hy
    · exact h2 y hy
    · rw [List.mem_singleton.mp hy]; exact hc
  · rw [get_set e3, List.length_append]
    rfl
  · rw [get_ne _ (by omega), get_set h4]
  · intro j y hj
    by_cases hjl : j < tx.length
    · rw [List.getElem?_append_left hjl] at hj
      rw [upd_n (by omega)]
      exact h5 j y hj
    · have hj2 : j < (tx ++ [c]).length := (List.getElem?_eq_some_iff.mp hj).1
      have hje : j = tx.length := by rw [List.length_append] at hj2; simp at hj2; omega
      subst hje
      rw [List.getElem?_append_right (Nat.le_refl _)] at hj
      simp at hj
      rw [upd_s, hj]
theorem q_appendT_full (T : Txt h x tx) {d : Nat} {c : Int32} (hl : tx.length = 200) : xc XP d 75 [.ref x, .int c] h = some (some (.int (nI 0)), h) := by
  rw [n_X6_append]
  simp (disch := first | assumption | omega) only [e_X6_append_0, e_X6_append_1, e_X6_append_2, e_X6_append_3, e_X6_append_4, e_X6_append_5, e_X6_append_6, e_X6_append_7, e_X6_append_8, e_X6_append_9, e_X6_append_10, e_X6_append_11, e_X6_append_12, e_X6_append_13, e_X6_append_14, e_X6_append_15, e_X6_append_16, e_X6_append_17, e_X6_append_18, e_X6_append_19, T.f1, Option.bind_some, nI_ltI, if_f, rk_0, if_true]
end TxtR
/-- moves: from, to -/
def Log (h : XH) (g : Nat) (ms : List (Nat × Nat)) : Prop := ms.length ≤ 18 ∧ h[g]? = some (.inl (1, [.ref (g + 1), .ref (g + 2), .int (nI ms.length)])) ∧ ∃ F T : Nat → Int32, h[g + 1]? = some (ia 18 F) ∧ h[g + 2]? = some (ia 18 T) ∧ ∀ j q, ms[j]? = some q → F j = nI q.1 ∧ T j = nI q.2
section LogR
variable {h : XH} {g : Nat} {ms : List (Nat × Nat)}
theorem Log.c (L : Log h g ms) : xcls h (.ref g) = some 1 := xcls_o L.2.1
theorem Log.f0 (L : Log h g ms) : xgf h g 1 0 = some (.ref (g + 1)) := xgf_o L.2.1 0
theorem Log.f1 (L : Log h g ms) : xgf h g 1 1 = some (.ref (g + 2)) := xgf_o L.2.1 1
theorem Log.f2 (L : Log h g ms) : xgf h g 1 2 = some (.int (nI ms.length)) := xgf_o L.2.1 2
theorem Log.same {h' : XH} (L : Log h g ms) {lo hi : Nat} (s : Same h h' lo hi) (hd : g + 3 ≤ lo ∨ hi ≤ g) : Log h' g ms := by
  obtain ⟨h1, h2, F, T, h3, h4, h5⟩ := L
  exact ⟨h1, by rw [s.2 _ (by omega)]; exact h2, F, T, by rw [s.2 _ (by omega)]; exact h3, by rw [s.2 _ (by omega)]; exact h4, h5⟩
theorem q_appendL (L : Log h g ms) {d f t : Nat} (hl : ms.length < 18) : ∃ h', xc XP d 12 [.ref g, .int (nI f), .int (nI t)] h = some (none, h') ∧ Log h' g (ms ++ [(f, t)]) ∧ Same h h' g (g + 3) := by
  obtain ⟨h1, h2, F, T, h3, h4, h5⟩ := id L
  have s1 := xst_ia h3 (by decide) hl (nI f)
  generalize hh1 : h.set (g + 1) (ia 18 (upd F ms.length (nI f))) = k1 at *
  have a2 : k1[g]? = some (.inl (1, [.ref (g + 1), .ref (g + 2), .int (nI ms.length)])) := by rw [← hh1, get_ne _ (by omega)]; exact h2
  have a3 : k1[g + 1]? = some (ia 18 (upd F ms.length (nI f))) := by rw [← hh1]; exact get_set h3 _
  have a4 : k1[g + 2]? = some (ia 18 T) := by rw [← hh1, get_ne _ (by omega)]; exact h4
  have S1 : Same h k1 g (g + 3) := by rw [← hh1]; exact (Same.refl h g (g + 3)).set (by omega) (by omega) _
  have s2 := xst_ia a4 (by decide) hl (nI t)
  generalize hh2 : k1.set (g + 2) (ia 18 (upd T ms.length (nI t))) = k2 at *
  have b2 : k2[g]? = some (.inl (1, [.ref (g + 1), .ref (g + 2), .int (nI ms.length)])) := by rw [← hh2, get_ne _ (by omega)]; exact a2
  have b3 : k2[g + 1]? = some (ia 18 (upd F ms.length (nI f))) := by rw [← hh2, get_ne _ (by omega)]; exact a3
  have b4 : k2[g + 2]? = some (ia 18 (upd T ms.length (nI t))) := by rw [← hh2]; exact get_set a4 _
  have S2 : Same h k2 g (g + 3) := by rw [← hh2]; exact S1.set (by omega) (by omega) _
  have p2 := xpf_o b2 (k := 2) (by simp) (.int (nI (ms.length + 1)))
  have S3 := S2.set (t := g) (by omega) (by omega) (.inl (1, [.ref (g + 1), .ref (g + 2), .int (nI (ms.length + 1))]))
  refine ⟨_, ?_, ⟨?_, ?_, upd F ms.length (nI f), upd T ms.length (nI t), ?_, ?_, ?_⟩, S3⟩
  · have x1 := xar_ia h3
    have y1 := xgf_o a2 1
    have y2 := xgf_o a2 2
    have z2 := xgf_o b2 2
    rw [n_X1_append]
    simp (disch := first | assumption | omega) only [e_X1_append_0, e_X1_append_1, e_X1_append_2, e_X1_append_3, e_X1_append_4, e_X1_append_5, e_X1_append_6, e_X1_append_7, e_X1_append_8, e_X1_append_9, e_X1_append_10, e_X1_append_11, e_X1_append_12, e_X1_append_13, e_X1_append_14, e_X1_append_15, e_X1_append_16, e_X1_append_17, e_X1_append_18, e_X1_append_19, e_X1_append_20, e_X1_append_21, e_X1_append_22, e_X1_append_23, e_X1_append_24, e_X1_append_25, L.f0, L.f2, x1, Option.bind_some, nI_ltI, if_t, s1, y1, y2, s2, z2, List.getElem?_cons_succ, List.getElem?_cons_zero, nI_add, p2, List.set_cons_succ, List.set_cons_zero]
  · rw [List.length_append]; exact hl
  · rw [get_set b2, List.length_append]
    rfl
  · rw [get_ne _ (by omega)]; exact b3
  · rw [get_ne _ (by omega)]; exact b4
  · intro j y hj
    by_cases hjl : j < ms.length
    · rw [List.getElem?_append_left hjl] at hj
      rw [upd_n (by omega), upd_n (by omega)]
      exact h5 j y hj
    · have hj2 : j < (ms ++ [(f, t)]).length := (List.getElem?_eq_some_iff.mp hj).1
      have hje : j = ms.length := by rw [List.length_append] at hj2; simp at hj2; omega
      subst hje
      rw [List.getElem?_append_right (Nat.le_refl _)] at hj
      simp at hj
      rw [upd_s, upd_s, ← hj]
      exact ⟨rfl, rfl⟩
theorem q_removeLast {f t : Nat} (L : Log h g (ms ++ [(f, t)])) {d : Nat} : ∃ h', xc XP (d + 1) 13 [.ref g] h = some (none, h') ∧ Log h' g ms ∧ Same h h' g (g + 3) := by
  obtain ⟨h1, h2, F, T, h3, h4, h5⟩ := id L
  have hl : (ms ++ [(f, t)]).length = ms.length + 1 := by simp
  rw [hl] at h1
  have p2 := xpf_o h2 (k := 2) (by simp) (.int (nI ms.length))
  refine ⟨_, ?_, ⟨by omega, ?_, F, T, ?_, ?_, ?_⟩, (Same.refl h g (g + 3)).set (t := g) (by omega) (by omega) (.inl (1, [.ref (g + 1), .ref (g + 2), .int (nI ms.length)]))⟩
  · have f2 := L.f2
    rw [hl] at f2
    have em : (if nI (ms.length + 1 - 1) < nI 0 then nI 0 else nI (ms.length + 1 - 1)) = nI ms.length := by rw [if_neg (nI_lt0 (by omega))]; rfl
    rw [n_X1_removeLast]
    simp (disch := first | assumption | omega) only [e_X1_removeLast_0, e_X1_removeLast_1, e_X1_removeLast_2, e_X1_removeLast_3, e_X1_removeLast_4, e_X1_removeLast_5, e_X1_removeLast_6, e_X1_removeLast_7, e_X1_removeLast_8, f2, Option.bind_some, pk_sub, q_max, xbk_i, em, p2, List.set_cons_succ, List.set_cons_zero]
  · rw [get_set h2]
  · rw [get_ne _ (by omega)]; exact h3
  · rw [get_ne _ (by omega)]; exact h4
  · intro j q hj
    refine h5 j q ?_
    rw [List.getElem?_append_left (List.getElem?_eq_some_iff.mp hj).1]
    exact hj
theorem q_copyFromL {g2 : Nat} {ms2 : List (Nat × Nat)} (L : Log h g ms) (L2 : Log h g2 ms2) (hd : g + 3 ≤ g2 ∨ g2 + 3 ≤ g) {d : Nat} : ∃ h', xc XP d 11 [.ref g, .ref g2] h = some (none, h') ∧ Log h' g ms2 ∧ Same h h' g (g + 3) := by
  obtain ⟨h1, h2, F, T, h3, h4, h5⟩ := id L
  obtain ⟨b1, b2, F2, T2, b3, b4, b5⟩ := id L2
  have p2 := xpf_o h2 (k := 2) (by simp) (.int (nI ms2.length))
  have S1 := (Same.refl h g (g + 3)).set (t := g) (by omega) (by omega) (.inl (1, [.ref (g + 1), .ref (g + 2), .int (nI ms2.length)]))
  have p2 : xpf h g 1 2 (.int (nI ms2.length)) = some (h.set g (.inl (1, [.ref (g + 1), .ref (g + 2), .int (nI ms2.length)]))) := p2
  generalize hk1 : h.set g (.inl (1, [.ref (g + 1), .ref (g + 2), .int (nI ms2.length)])) = k1 at *
  have a2 : k1[g]? = some (.inl (1, [.ref (g + 1), .ref (g + 2), .int (nI ms2.length)])) := by rw [← hk1]; exact get_set h2 _
  have a3 : k1[g + 1]? = some (ia 18 F) := by rw [← hk1, get_ne _ (by omega)]; exact h3
  have a4 : k1[g + 2]? = some (ia 18 T) := by rw [← hk1, get_ne _ (by omega)]; exact h4
  have c2 : k1[g2]? = some (.inl (1, [.ref (g2 + 1), .ref (g2 + 2), .int (nI ms2.length)])) := by rw [S1.2 _ (by omega)]; exact b2
  have c3 : k1[g2 + 1]? = some (ia 18 F2) := by rw [S1.2 _ (by omega)]; exact b3
  have y1 := xcp_ia c3 a3 (by decide)
  generalize hk2 : k1.set (g + 1) (ia 18 (va_cpy F2 F 0 0 18)) = k2 at *
  have S2 : Same h k2 g (g + 3) := by rw [← hk2]; exact S1.set (by omega) (by omega) _
  have e2 : k2[g]? = some (.inl (1, [.ref (g + 1), .ref (g + 2), .int (nI ms2.length)])) := by rw [← hk2, get_ne _ (by omega)]; exact a2
  have e3 : k2[g + 1]? = some (ia 18 (va_cpy F2 F 0 0 18)) := by rw [← hk2]; exact get_set a3 _
  have e4 : k2[g + 2]? = some (ia 18 T) := by rw [← hk2, get_ne _ (by omega)]; exact a4
  have d2 : k2[g2]? = some (.inl (1, [.ref (g2 + 1), .ref (g2 + 2), .int (nI ms2.length)])) := by rw [S2.2 _ (by omega)]; exact b2
  have d4 : k2[g2 + 2]? = some (ia 18 T2) := by rw [S2.2 _ (by omega)]; exact b4
  have y2 := xcp_ia d4 e4 (by decide)
  have S3 : Same h (k2.set (g + 2) (ia 18 (va_cpy T2 T 0 0 18))) g (g + 3) := S2.set (by omega) (by omega) _
  refine ⟨_, ?_, ⟨b1, by rw [get_ne _ (by omega)]; exact e2, va_cpy F2 F 0 0 18, va_cpy T2 T 0 0 18, by rw [get_ne _ (by omega)]; exact e3, get_set e4 _, fun j q hj => ?_⟩, S3⟩
  · have u0 := xgf_o a2 0
    have u1 := xgf_o c2 0
    have u2 := xar_ia a3
    have w0 := xgf_o e2 1
    have w1 := xgf_o d2 1
    have w2 := xar_ia e4
    rw [n_X1_copyFrom]
    simp (disch := first | assumption | omega) only [e_X1_copyFrom_0, e_X1_copyFrom_1, e_X1_copyFrom_2, e_X1_copyFrom_3, e_X1_copyFrom_4, e_X1_copyFrom_5, e_X1_copyFrom_6, e_X1_copyFrom_7, e_X1_copyFrom_8, e_X1_copyFrom_9, e_X1_copyFrom_10, e_X1_copyFrom_11, e_X1_copyFrom_12, e_X1_copyFrom_13, e_X1_copyFrom_14, e_X1_copyFrom_15, e_X1_copyFrom_16, e_X1_copyFrom_17, e_X1_copyFrom_18, e_X1_copyFrom_19, e_X1_copyFrom_20, e_X1_copyFrom_21, e_X1_copyFrom_22, e_X1_copyFrom_23, e_X1_copyFrom_24, L2.f2, p2, u0, u1, u2, y1, w0, w1, w2, y2, Option.bind_some, List.getElem?_cons_succ, List.getElem?_cons_zero]
  · have hj18 : j < 18 := Nat.lt_of_lt_of_le (List.getElem?_eq_some_iff.mp hj).1 b1
    rw [cpy0 hj18, cpy0 hj18]
    exact b5 j q hj
end LogR
/-- the past: a ring of five boards -/
abbrev Bst : Type := List Rl × Sl
def Pst (h : XH) (p nx sz : Nat) (pb : Nat → Bst) : Prop := nx < 5 ∧ sz ≤ 5 ∧ h[p]? = some (.inl (2, [.ref (p + 1), .int (nI nx), .int (nI sz)])) ∧ h[p + 1]? = some (.inr (.inr [.ref (p + 2), .ref (p + 16), .ref (p + 30), .ref (p + 44), .ref (p + 58)])) ∧ ∀ i, i < 5 → Brd h (p + 2 + 14 * i) (pb i).1 (pb i).2
def updB (pb : Nat → Bst) (k : Nat) (x : Bst) : Nat → Bst := fun j => if j = k then x else pb j
section PstR
variable {h : XH} {p nx sz : Nat} {pb : Nat → Bst}
theorem Pst.f0 (Q : Pst h p nx sz pb) : xgf h p 2 0 = some (.ref (p + 1)) := xgf_o Q.2.2.1 0
theorem Pst.f1 (Q : Pst h p nx sz pb) : xgf h p 2 1 = some (.int (nI nx)) := xgf_o Q.2.2.1 1
theorem Pst.f2 (Q : Pst h p nx sz pb) : xgf h p 2 2 = some (.int (nI sz)) := xgf_o Q.2.2.1 2
theorem Pst.c (Q : Pst h p nx sz pb) : xcls h (.ref p) = some 2 := xcls_o Q.2.2.1
theorem Pst.bl (Q : Pst h p nx sz pb) {i : Nat} (hi : i < 5) : xbl h (p + 1) (nI i) = some (.ref (p + 2 + 14 * i)) := by
  have e := Q.2.2.2.1
  unfold xbl xbs
  rw [e]
  simp only [Option.bind_some]
  rw [if_pos (xin_nI (by simpa using hi) (by simp)), nI_clamp (by omega)]
  match i, hi with
  | 0, _ => rfl
  | 1, _ => rfl
  | 2, _ => rfl
  | 3, _ => rfl
  | 4, _ => rfl
theorem Pst.same {h' : XH} (Q : Pst h p nx sz pb) {lo hi : Nat} (s : Same h h' lo hi) (hd : p + 72 ≤ lo ∨ hi ≤ p) : Pst h' p nx sz pb :=
  ⟨Q.1, Q.2.1, by rw [s.2 _ (by omega)]; exact Q.2.2.1, by rw [s.2 _ (by omega)]; exact Q.2.2.2.1, fun i hi => (Q.2.2.2.2 i hi).same s (by omega)⟩
theorem q_keep (Q : Pst h p nx sz pb) {b : Nat} {l : List Rl} {σ : Sl} (B : Brd h b l σ) (hd : b + 14 ≤ p ∨ p + 72 ≤ b) {d : Nat} : ∃ h', xc XP (d + 2) 15 [.ref p, .ref b] h = some (none, h') ∧ Pst h' p ((nx + 1) % 5) (min (sz + 1) 5) (updB pb nx (l, σ)) ∧ Same h h' p (p + 72) := by
  obtain ⟨q1, q2, q3, q4, q5⟩ := id Q
  obtain ⟨h1, e1, B1, s1⟩ := (q5 nx q1).copy B (by omega) (d := d)
  have S1 : Same h h1 p (p + 72) := s1.weak (by omega) (by omega)
  have a3 : h1[p]? = some (.inl (2, [.ref (p + 1), .int (nI nx), .int (nI sz)])) := by rw [s1.2 _ (by omega)]; exact q3
  have p1 : xpf h1 p 2 1 (.int (nI ((nx + 1) % 5))) = some (h1.set p (.inl (2, [.ref (p + 1), .int (nI ((nx + 1) % 5)), .int (nI sz)]))) := xpf_o a3 (k := 1) (by simp) _
  generalize hk1 : h1.set p (.inl (2, [.ref (p + 1), .int (nI ((nx + 1) % 5)), .int (nI sz)])) = k1 at *
  have b3 : k1[p]? = some (.inl (2, [.ref (p + 1), .int (nI ((nx + 1) % 5)), .int (nI sz)])) := by rw [← hk1]; exact get_set a3 _
  have S2 : Same h k1 p (p + 72) := by rw [← hk1]; exact S1.set (by omega) (by omega) _
  have p2 : xpf k1 p 2 2 (.int (nI (min (sz + 1) 5))) = some (k1.set p (.inl (2, [.ref (p + 1), .int (nI ((nx + 1) % 5)), .int (nI (min (sz + 1) 5))]))) := xpf_o b3 (k := 2) (by simp) _
  have S12 : Same h1 (k1.set p (.inl (2, [.ref (p + 1), .int (nI ((nx + 1) % 5)), .int (nI (min (sz + 1) 5))]))) p (p + 1) := by
    rw [← hk1]
    exact ((Same.refl h1 p (p + 1)).set (by omega) (by omega) _).set (by omega) (by omega) _
  refine ⟨_, ?_, ⟨Nat.mod_lt _ (by omega), Nat.min_le_right _ _, get_set b3 _, ?_, fun i hi => ?_⟩, S2.set (t := p) (by omega) (by omega) _⟩
  · have c0 := (q5 nx q1)
    obtain ⟨_, _, _, _, c0, -⟩ := c0
    have c1 := c0.c
    have u1 := xgf_o a3 1
    have u2 := xgf_o b3 2
    have em : (if nI 5 < nI (sz + 1) then nI 5 else nI (sz + 1)) = nI (min (sz + 1) 5) := by
      by_cases g : 5 < sz + 1
      · rw [if_pos ((nI_ltI (by decide) (by omega)).mpr g), Nat.min_eq_right (by omega)]
      · rw [if_neg (fun z => g ((nI_ltI (by decide) (by omega)).mp z)), Nat.min_eq_left (by omega)]
    rw [n_X2_keep]
    simp (disch := first | assumption | omega) only [e_X2_keep_0, e_X2_keep_1, e_X2_keep_2, e_X2_keep_3, e_X2_keep_4, e_X2_keep_5, e_X2_keep_6, e_X2_keep_7, e_X2_keep_8, e_X2_keep_9, e_X2_keep_10, e_X2_keep_11, e_X2_keep_12, e_X2_keep_13, e_X2_keep_14, e_X2_keep_15, e_X2_keep_16, e_X2_keep_17, e_X2_keep_18, e_X2_keep_19, e_X2_keep_20, e_X2_keep_21, e_X2_keep_22, e_X2_keep_23, Q.f0, Q.f1, Q.bl, Option.bind_some, e1, xbk_v, u1, u2, List.getElem?_cons_succ, List.getElem?_cons_zero, nI_add, jrem, p1, q_min, xbk_i, em, p2]
  · rw [S12.2 _ (by omega), s1.2 _ (by omega)]; exact q4
  · unfold updB
    by_cases hin : i = nx
    · subst hin
      rw [if_pos rfl]
      exact B1.same S12 (by omega)
    · rw [if_neg hin]
      exact ((q5 i hi).same s1 (by omega)).same S12 (by omega)
theorem q_giveBack (Q : Pst h p nx sz pb) (hsz : 0 < sz) {b : Nat} {l : List Rl} {σ : Sl} (B : Brd h b l σ) (hd : b + 14 ≤ p ∨ p + 72 ≤ b) {d : Nat} : ∃ h', xc XP (d + 2) 16 [.ref p, .ref b] h = some (none, h') ∧ Pst h' p ((nx + 4) % 5) (sz - 1) pb ∧ Brd h' b (pb ((nx + 4) % 5)).1 (pb ((nx + 4) % 5)).2 ∧ (∀ i : Nat, (i < p ∨ p + 72 ≤ i) → (i < b ∨ b + 14 ≤ i) → h'[i]? = h[i]?) ∧ h'.length = h.length := by
  obtain ⟨q1, q2, q3, q4, q5⟩ := id Q
  have hm : (nx + 4) % 5 < 5 := Nat.mod_lt _ (by omega)
  have p1 : xpf h p 2 1 (.int (nI ((nx + 4) % 5))) = some (h.set p (.inl (2, [.ref (p + 1), .int (nI ((nx + 4) % 5)), .int (nI sz)]))) := xpf_o q3 (k := 1) (by simp) _
  generalize hk1 : h.set p (.inl (2, [.ref (p + 1), .int (nI ((nx + 4) % 5)), .int (nI sz)])) = k1 at *
  have b3 : k1[p]? = some (.inl (2, [.ref (p + 1), .int (nI ((nx + 4) % 5)), .int (nI sz)])) := by rw [← hk1]; exact get_set q3 _
  have S1 : Same h k1 p (p + 1) := by rw [← hk1]; exact (Same.refl h p (p + 1)).set (by omega) (by omega) _
  have p2 : xpf k1 p 2 2 (.int (nI (sz - 1))) = some (k1.set p (.inl (2, [.ref (p + 1), .int (nI ((nx + 4) % 5)), .int (nI (sz - 1))]))) := xpf_o b3 (k := 2) (by simp) _
  generalize hk2 : k1.set p (.inl (2, [.ref (p + 1), .int (nI ((nx + 4) % 5)), .int (nI (sz - 1))])) = k2 at *
  have c3 : k2[p]? = some (.inl (2, [.ref (p + 1), .int (nI ((nx + 4) % 5)), .int (nI (sz - 1))])) := by rw [← hk2]; exact get_set b3 _
  have S2 : Same h k2 p (p + 1) := by rw [← hk2]; exact S1.set (by omega) (by omega) _
  have Q2 : Pst k2 p ((nx + 4) % 5) (sz - 1) pb := ⟨hm, by omega, c3, by rw [S2.2 _ (by omega)]; exact q4, fun i hi => (q5 i hi).same S2 (by omega)⟩
  have B2 := B.same S2 (by omega)
  obtain ⟨h3, e3, B3, s3⟩ := B2.copy (Q2.2.2.2.2 _ hm) (by omega) (d := d)
  refine ⟨h3, ?_, Q2.same s3 (by omega), B3, fun i h1 h2 => by rw [s3.2 i (by omega), S2.2 i (by omega)], by rw [s3.1, S2.1]⟩
  have u1 := xgf_o b3 2
  have cb : xcls k2 (.ref b) = some 0 := by
    obtain ⟨_, _, _, _, c0, -⟩ := B2
    exact c0.c
  rw [n_X2_giveBack]
  simp (disch := first | assumption | omega) only [e_X2_giveBack_0, e_X2_giveBack_1, e_X2_giveBack_2, e_X2_giveBack_3, e_X2_giveBack_4, e_X2_giveBack_5, e_X2_giveBack_6, e_X2_giveBack_7, e_X2_giveBack_8, e_X2_giveBack_9, e_X2_giveBack_10, e_X2_giveBack_11, e_X2_giveBack_12, e_X2_giveBack_13, e_X2_giveBack_14, e_X2_giveBack_15, e_X2_giveBack_16, e_X2_giveBack_17, e_X2_giveBack_18, e_X2_giveBack_19, e_X2_giveBack_20, e_X2_giveBack_21, e_X2_giveBack_22, e_X2_giveBack_23, e_X2_giveBack_24, e_X2_giveBack_25, e_X2_giveBack_26, e_X2_giveBack_27, Q.f1, Q.f2, Q2.f0, Q2.f1, Q2.bl, Option.bind_some, nI_ltI, if_t, nI_add, pk_sub, jrem, show nx + 5 - 1 = nx + 4 from rfl, p1, u1, List.getElem?_cons_succ, List.getElem?_cons_zero, p2, e3, xbk_v]
end PstR
