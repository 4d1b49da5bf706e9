/-! THE MODEL: it reads -/
abbrev ba (n : Nat) (f : Nat → Int32) : XC := .inr (.inl (1, n, f))
theorem xld_ba {h : XH} {t n : Nat} {f : Nat → Int32} (e : h[t]? = some (ba n f)) (hn : n < 2 ^ 31) {k : Nat} (hk : k < n) : xld h t 1 (nI k) = some (f k) := by
  unfold xld xar
  rw [e]
  simp only [if_true, Option.bind_some]
  rw [if_pos (xin_nI hk hn), nI_clamp (by omega)]
theorem ba_w {h : XH} {t n : Nat} {f : Nat → Int32} (e : h[t]? = some (ba n f)) (hn : n < 2 ^ 31) {k : Nat} (hk : k < n) (b : Bool) : ∃ h', xst h t 1 (nI k) (bI b) = some h' ∧ h'[t]? = some (ba n (upd f k (bI b))) ∧ Same h h' t (t + 1) := by
  refine ⟨h.set t (ba n (upd f k (bI b))), ?_, get_set e _, (Same.refl _ _ _).set (by omega) (by omega) _⟩
  unfold xst xar
  rw [e]
  simp only [if_true, Option.bind_some]
  rw [if_pos (by rw [xin_nI hk hn]; cases b <;> decide), nI_clamp (by omega)]
def TX (h : XH) (m : Nat) (tx : List Nat) : Prop := tx.length ≤ 200 ∧ (∀ c ∈ tx, c < 1000) ∧ ∃ t, h[m + 5]? = some (ia 200 t) ∧ ∀ j c, tx[j]? = some c → t j = nI c
theorem TX.same {h h' : XH} {m : Nat} {tx : List Nat} (X : TX h m tx) (s : Same h h' m (m + 1)) : TX h' m tx := by
  obtain ⟨x1, x2, t, x3, x4⟩ := X
  exact ⟨x1, x2, t, by rw [s.2 _ (by omega)]; exact x3, x4⟩
def heN (tx : List Nat) (i : Nat) : Nat := match tx[i]? with
  | some c => c
  | none => 0
section Md29R
variable {h : XH} {m : Nat} {d : Nat} {tx : List Nat} {i : Nat} {cm ca nu nr mm nm : Int32}
theorem heN_lt (X : TX h m tx) (i : Nat) : heN tx i < 1000 := by
  unfold heN
  split
  · next c hc => exact X.2.1 c (List.mem_of_getElem? hc)
  · omega
theorem q_here (M : MdO h m cm ca (nI tx.length) (nI i) nu nr mm nm) (X : TX h m tx) (hi : i < 1000) : xc XP d 130 [.ref m] h = some (some (.int (nI (heN tx i))), h) := by
  obtain ⟨x1, x2, t, x3, x4⟩ := X
  unfold heN
  rw [n_X8_here]
  by_cases g : i < tx.length
  · have hg : tx[i]? = some tx[i] := List.getElem?_eq_getElem g
    have l1 := xld_ia x3 (by decide) (show i < 200 by omega)
    rw [x4 i _ hg] at l1
    rw [hg]
    simp (disch := first | assumption | omega) only [e_X8_here_0, e_X8_here_1, e_X8_here_2, e_X8_here_3, e_X8_here_4, e_X8_here_5, e_X8_here_6, e_X8_here_7, e_X8_here_8, e_X8_here_9, e_X8_here_10, e_X8_here_11, e_X8_here_12, M.f8, M.f7, M.f6, Option.bind_some, nI_leI, if_f, l1]
  · have hg : tx[i]? = none := List.getElem?_eq_none (by omega)
    rw [hg]
    simp (disch := first | assumption | omega) only [e_X8_here_0, e_X8_here_1, e_X8_here_2, e_X8_here_3, e_X8_here_4, e_X8_here_11, e_X8_here_12, M.f8, M.f7, Option.bind_some, nI_leI, if_t]
theorem isC_he {c : Nat} (hc : c ≠ 0) : isC tx i c = decide (heN tx i = c) := by
  unfold isC heN
  cases hg : tx[i]? with
  | none => simp; omega
  | some x => simp
theorem q_takes (M : MdO h m cm ca (nI tx.length) (nI i) nu nr mm nm) (X : TX h m tx) (hi : i < 1000) {c : Nat} (hc : c ≠ 0) (hc2 : c < 1000) : ∃ h', xc XP (d + 1) 131 [.ref m, .int (nI c)] h = some (some (.int (bI (isC tx i c))), h') ∧ MdO h' m cm ca (nI tx.length) (nI (if isC tx i c = true then i + 1 else i)) nu nr mm nm ∧ Same h h' m (m + 1) := by
  have c0 := M.k
  have qh := q_here (d := d) M X hi
  have hl := heN_lt X i
  rw [isC_he hc, n_X8_takes]
  by_cases g : heN tx i = c
  · rw [decide_eq_true g]
    obtain ⟨h1, e1, M1, s1⟩ := M.w8 (nI (i + 1))
    refine ⟨h1, ?_, M1, s1⟩
    rw [g] at qh
    simp (disch := first | assumption | omega) only [e_X8_takes_0, e_X8_takes_1, e_X8_takes_2, e_X8_takes_3, e_X8_takes_4, e_X8_takes_5, e_X8_takes_6, e_X8_takes_7, e_X8_takes_8, e_X8_takes_9, e_X8_takes_10, e_X8_takes_11, e_X8_takes_12, e_X8_takes_13, e_X8_takes_14, e_X8_takes_15, e_X8_takes_16, e_X8_takes_17, e_X8_takes_18, e_X8_takes_19, qh, xbk_i, not_true, if_false, M.f8, Option.bind_some, show ¬ nI 1 = nI 0 by decide, nI_add, e1, rk_1, if_true, bI_t]
  · rw [decide_eq_false g]
    obtain ⟨h1, e1, M1, s1⟩ := M.w8 (nI (i + 0))
    have gn : ¬ nI (heN tx i) = nI c := by rw [nI_eq (by omega) (by omega)]; exact g
    refine ⟨h1, ?_, M1, s1⟩
    simp (disch := first | assumption | omega) only [e_X8_takes_0, e_X8_takes_1, e_X8_takes_2, e_X8_takes_3, e_X8_takes_4, e_X8_takes_5, e_X8_takes_6, e_X8_takes_7, e_X8_takes_8, e_X8_takes_9, e_X8_takes_10, e_X8_takes_11, e_X8_takes_12, e_X8_takes_13, e_X8_takes_14, e_X8_takes_15, e_X8_takes_16, e_X8_takes_17, e_X8_takes_18, e_X8_takes_19, qh, xbk_i, gn, not_false_eq_true, if_true, M.f8, Option.bind_some, nI_add, e1, rk_0, bI_f]
theorem fig_he (X : TX h m tx) (i : Nat) : figS tx i = if 48 ≤ heN tx i ∧ heN tx i ≤ 57 then some (heN tx i - 48) else none := by
  unfold figS heN
  cases hg : tx[i]? with
  | none => simp
  | some x => rfl
theorem q_inF (e : Nat) {x : Nat} (hx : x < 1000) : xc XP e 111 [.int (nI x), .int (nI 48), .int (nI 57)] h = some (some (.int (bI (decide (48 ≤ x ∧ x ≤ 57)))), h) := by
  rw [q_in]
  congr 4
  refine congrArg bI (decide_eq_decide.mpr ?_)
  rw [nI_leI (by omega) (by omega), nI_leI (by omega) (by omega)]
/-- one step of a number -/
theorem num_step {nuN : Nat} (M : MdO h m cm ca (nI tx.length) (nI i) (nI nuN) nr mm nm) (X : TX h m tx) (hi : i < 900) {fg k : Nat} {a2 : Value} (hk : k < fg) (hf : fg < 1000) {a : Nat} (ha : figS tx i = some a) : ∃ h', xe XP (d + 1) 132 (5, [.ref m, .int (nI fg), a2, .int (nI k)], [], h) = xe XP (d + 1) 132 (5, [.ref m, .int (nI fg), a2, .int (nI (k + 1))], [], h') ∧ MdO h' m cm ca (nI tx.length) (nI (i + 1)) (nI (nuN * 10 + a)) nr mm nm ∧ Same h h' m (m + 1) := by
  have c0 := M.k
  have qh := q_here (d := d) M X (by omega)
  have hl := heN_lt X i
  have hfig := fig_he X i
  rw [ha] at hfig
  by_cases g : 48 ≤ heN tx i ∧ heN tx i ≤ 57
  · rw [if_pos g] at hfig
    cases hfig
    have qi := q_inF (h := h) d hl
    rw [decide_eq_true g] at qi
    obtain ⟨h1, e1, M1, s1⟩ := M.w9 (nI (nuN * 10 + (heN tx i - 48)))
    obtain ⟨h2, e2, M2, s2⟩ := M1.w8 (nI (i + 1))
    refine ⟨h2, ?_, M2, s1.trans s2⟩
    have e1' : xpf h m 8 9 (.int (nI (10 * nuN + heN tx i - 48))) = some h1 := by rw [show 10 * nuN + heN tx i - 48 = nuN * 10 + (heN tx i - 48) by omega]; exact e1
    rw [e_X8_isNumber_5]
    simp (disch := first | assumption | omega) only [e_X8_isNumber_6, e_X8_isNumber_7, e_X8_isNumber_8, e_X8_isNumber_9, e_X8_isNumber_10, e_X8_isNumber_11, e_X8_isNumber_12, e_X8_isNumber_13, e_X8_isNumber_14, e_X8_isNumber_15, e_X8_isNumber_16, e_X8_isNumber_17, e_X8_isNumber_18, e_X8_isNumber_19, e_X8_isNumber_20, e_X8_isNumber_21, e_X8_isNumber_22, e_X8_isNumber_23, e_X8_isNumber_24, e_X8_isNumber_25, e_X8_isNumber_26, e_X8_isNumber_27, e_X8_isNumber_28, e_X8_isNumber_29, e_X8_isNumber_30, e_X8_isNumber_31, e_X8_isNumber_32, nI_leI, if_f, qh, xbk_i, qi, bI_0, Bool.true_eq_false, if_false, M.f9, M1.f8, Option.bind_some, pk_mul, nI_add, pk_sub, e1', e2]
  · rw [if_neg g] at hfig
    cases hfig
theorem num_stop (M : MdO h m cm ca (nI tx.length) (nI i) nu nr mm nm) (X : TX h m tx) (hi : i < 900) {fg k : Nat} {a2 : Value} (hk : k ≤ fg) (hf : fg < 1000) (ha : k = fg ∨ figS tx i = none) : xe XP (d + 1) 132 (5, [.ref m, .int (nI fg), a2, .int (nI k)], [], h) = xe XP (d + 1) 132 (33, [.ref m, .int (nI fg), a2, .int (nI k)], [], h) := by
  have c0 := M.k
  by_cases g : k = fg
  · subst g
    simp (disch := first | assumption | omega) only [e_X8_isNumber_5, e_X8_isNumber_6, e_X8_isNumber_7, nI_leI, if_t]
  · have ha : figS tx i = none := ha.resolve_left g
    have qh := q_here (d := d) M X (by omega)
    have hl := heN_lt X i
    have hfig := fig_he X i
    rw [ha] at hfig
    by_cases g2 : 48 ≤ heN tx i ∧ heN tx i ≤ 57
    · rw [if_pos g2] at hfig; cases hfig
    · have qi := q_inF (h := h) d hl
      rw [decide_eq_false g2] at qi
      simp (disch := first | assumption | omega) only [e_X8_isNumber_5, e_X8_isNumber_6, e_X8_isNumber_7, e_X8_isNumber_8, e_X8_isNumber_9, e_X8_isNumber_10, e_X8_isNumber_11, e_X8_isNumber_12, e_X8_isNumber_13, nI_leI, if_f, qh, xbk_i, qi, bI_0, if_true]
theorem num_end {nuN fg k mo : Nat} (M : MdO h m cm ca (nI tx.length) (nI i) (nI nuN) nr mm nm) (hk : k < 1000) (hn : nuN < 1000) (hm : mo < 1000) : xe XP (d + 1) 132 (33, [.ref m, .int (nI fg), .int (nI mo), .int (nI k)], [], h) = some (some (.int (bI (decide (0 < k) && decide (nuN ≤ mo)))), h) := by
  by_cases g : k = 0
  · subst g
    simp (disch := first | assumption | omega) only [e_X8_isNumber_33, e_X8_isNumber_34, e_X8_isNumber_41, e_X8_isNumber_42, nI_leI, if_t, rk_0, if_true]
    rfl
  · by_cases g2 : nuN ≤ mo
    · rw [decide_eq_true (show 0 < k by omega), decide_eq_true g2]
      simp (disch := first | assumption | omega) only [e_X8_isNumber_33, e_X8_isNumber_34, e_X8_isNumber_35, e_X8_isNumber_36, e_X8_isNumber_37, e_X8_isNumber_38, e_X8_isNumber_39, e_X8_isNumber_40, e_X8_isNumber_42, nI_leI, nI_ltI, if_f, M.f9, Option.bind_some, rk_1, if_true]
      rfl
    · rw [decide_eq_true (show 0 < k by omega), decide_eq_false g2]
      simp (disch := first | assumption | omega) only [e_X8_isNumber_33, e_X8_isNumber_34, e_X8_isNumber_35, e_X8_isNumber_36, e_X8_isNumber_37, e_X8_isNumber_38, e_X8_isNumber_41, e_X8_isNumber_42, nI_leI, nI_ltI, if_f, if_t, M.f9, Option.bind_some, rk_0, if_true]
      rfl
theorem q_isNumber2 (M : MdO h m cm ca (nI tx.length) (nI i) nu nr mm nm) (X : TX h m tx) (hi : i < 890) {mo : Nat} (hm : mo < 1000) : ∃ h' j n, xc XP (d + 1) 132 [.ref m, .int (nI 2), .int (nI mo)] h = some (some (.int (bI (match numS tx i with | some x => decide (x.1 ≤ mo) | none => false))), h') ∧ MdO h' m cm ca (nI tx.length) (nI j) (nI n) nr mm nm ∧ (∀ x, numS tx i = some x → j = x.2 ∧ n = x.1) ∧ Same h h' m (m + 1) := by
  obtain ⟨h1, e1, M1, s1⟩ := M.w9 (nI 0)
  have X1 := X.same s1
  rw [n_X8_isNumber]
  simp only [e_X8_isNumber_0, e_X8_isNumber_1, e_X8_isNumber_2, e_X8_isNumber_3, e_X8_isNumber_4, e1, Option.bind_some]
  unfold numS
  cases ha : figS tx i with
  | none =>
    refine ⟨h1, i, 0, ?_, M1, fun x hx => (by cases hx), s1⟩
    rw [num_stop (d := d) M1 X1 (by omega) (by omega) (by omega) (Or.inr ha), num_end M1 (by omega) (by omega) hm]
    rfl
  | some a =>
    have a10 := figS_lt ha
    obtain ⟨h2, e2, M2, s2⟩ := num_step (d := d) (nuN := 0) M1 X1 (by omega) (fg := 2) (k := 0) (a2 := .int (nI mo)) (by omega) (by omega) ha
    have X2 := X1.same s2
    rw [e2]
    cases hb : figS tx (i + 1) with
    | none =>
      refine ⟨h2, i + 1, 0 * 10 + a, ?_, M2, fun x hx => (by cases hx; exact ⟨rfl, by omega⟩), s1.trans s2⟩
      rw [num_stop (d := d) M2 X2 (by omega) (by omega) (by omega) (Or.inr hb), num_end M2 (by omega) (by omega) hm]
      rw [show 0 * 10 + a = a by omega]
      rfl
    | some b =>
      have b10 := figS_lt hb
      obtain ⟨h3, e3, M3, s3⟩ := num_step (d := d) M2 X2 (by omega) (fg := 2) (k := 0 + 1) (a2 := .int (nI mo)) (by omega) (by omega) hb
      refine ⟨h3, i + 1 + 1, (0 * 10 + a) * 10 + b, ?_, M3, fun x hx => (by cases hx; exact ⟨rfl, by omega⟩), (s1.trans s2).trans s3⟩
      rw [e3, num_stop (d := d) M3 (X2.same s3) (by omega) (by omega) (by omega) (Or.inl rfl), num_end M3 (by omega) (by omega) hm]
      rw [show (0 * 10 + a) * 10 + b = a * 10 + b by omega]
      rfl
theorem q_isNumber1 (M : MdO h m cm ca (nI tx.length) (nI i) nu nr mm nm) (X : TX h m tx) (hi : i < 890) : ∃ h' j n, xc XP (d + 1) 132 [.ref m, .int (nI 1), .int (nI 9)] h = some (some (.int (bI (figS tx i).isSome)), h') ∧ MdO h' m cm ca (nI tx.length) (nI j) (nI n) nr mm nm ∧ (∀ x, figS tx i = some x → j = i + 1 ∧ n = x) ∧ Same h h' m (m + 1) := by
  obtain ⟨h1, e1, M1, s1⟩ := M.w9 (nI 0)
  have X1 := X.same s1
  rw [n_X8_isNumber]
  simp only [e_X8_isNumber_0, e_X8_isNumber_1, e_X8_isNumber_2, e_X8_isNumber_3, e_X8_isNumber_4, e1, Option.bind_some]
  cases ha : figS tx i with
  | none =>
    refine ⟨h1, i, 0, ?_, M1, fun x hx => (by cases hx), s1⟩
    rw [num_stop (d := d) M1 X1 (by omega) (by omega) (by omega) (Or.inr ha), num_end M1 (by omega) (by omega) (by omega)]
    rfl
  | some a =>
    have a10 := figS_lt ha
    obtain ⟨h2, e2, M2, s2⟩ := num_step (d := d) (nuN := 0) M1 X1 (by omega) (fg := 1) (k := 0) (a2 := .int (nI 9)) (by omega) (by omega) ha
    refine ⟨h2, i + 1, 0 * 10 + a, ?_, M2, fun x hx => (by cases hx; exact ⟨rfl, by omega⟩), s1.trans s2⟩
    rw [e2, num_stop (d := d) M2 (X1.same s2) (by omega) (by omega) (by omega) (Or.inl rfl), num_end M2 (by omega) (by omega) (by omega)]
    rw [show 0 * 10 + a = a by omega, decide_eq_true (show a ≤ 9 by omega)]
    rfl
theorem sg_he (i : Nat) : sgS tx i = if heN tx i = 48 then some 0 else if heN tx i = 49 then some 1 else if heN tx i = 42 then some 2 else none := by
  unfold sgS heN
  cases hg : tx[i]? with
  | none => simp
  | some x => rfl
theorem q_isSign {n : Nat} (M : MdO h m cm ca (nI tx.length) (nI i) (nI n) nr mm nm) (X : TX h m tx) (hi : i < 890) : ∃ h' y, xc XP (d + 1) 133 [.ref m] h = some (some (.int (bI (sgS tx i).isSome)), h') ∧ MdO h' m cm ca (nI tx.length) (nI (i + 1)) y nr mm nm ∧ (∀ x, sgS tx i = some x → y = nI (n * 10 + x)) ∧ Same h h' m (m + 1) := by
  have c0 := M.k
  have qh := q_here (d := d) M X (by omega)
  have hl := heN_lt X i
  rw [sg_he, n_X8_isSign]
  generalize heN tx i = c at qh hl
  by_cases g1 : c = 42
  · subst g1
    obtain ⟨h1, e1, M1, s1⟩ := M.w9 (nI (10 * n + 2))
    obtain ⟨h2, e2, M2, s2⟩ := M1.w8 (nI (i + 1))
    refine ⟨h2, _, ?_, M2, fun x hx => (by cases hx; rw [Nat.mul_comm]), s1.trans s2⟩
    simp (disch := first | assumption | omega) only [e_X8_isSign_0, e_X8_isSign_1, e_X8_isSign_2, e_X8_isSign_3, e_X8_isSign_4, e_X8_isSign_5, e_X8_isSign_6, e_X8_isSign_7, e_X8_isSign_8, e_X8_isSign_9, e_X8_isSign_10, e_X8_isSign_11, e_X8_isSign_12, e_X8_isSign_13, e_X8_isSign_14, e_X8_isSign_15, e_X8_isSign_16, e_X8_isSign_17, e_X8_isSign_18, e_X8_isSign_19, e_X8_isSign_20, e_X8_isSign_21, e_X8_isSign_22, e_X8_isSign_23, e_X8_isSign_24, e_X8_isSign_25, e_X8_isSign_26, e_X8_isSign_27, e_X8_isSign_28, e_X8_isSign_29, e_X8_isSign_30, e_X8_isSign_31, e_X8_isSign_32, e_X8_isSign_33, e_X8_isSign_34, e_X8_isSign_35, e_X8_isSign_36, qh, xbk_i, not_true, if_false, M.f9, M1.f8, Option.bind_some, pk_mul, nI_add, e1, e2, show ¬ nI 42 = nI 48 by decide, show ¬ nI 42 = nI 49 by decide, rk_1, if_true]
    rfl
  · have n1 : ¬ nI c = nI 42 := by rw [nI_eq (by omega) (by omega)]; exact g1
    by_cases g2 : c = 48
    · subst g2
      obtain ⟨h1, e1, M1, s1⟩ := M.w9 (nI (10 * n + (48 - 48)))
      obtain ⟨h2, e2, M2, s2⟩ := M1.w8 (nI (i + 1))
      refine ⟨h2, _, ?_, M2, fun x hx => (by cases hx; rw [Nat.mul_comm]), s1.trans s2⟩
      simp (disch := first | assumption | omega) only [e_X8_isSign_0, e_X8_isSign_1, e_X8_isSign_2, e_X8_isSign_3, e_X8_isSign_4, e_X8_isSign_5, e_X8_isSign_6, e_X8_isSign_7, e_X8_isSign_8, e_X8_isSign_9, e_X8_isSign_10, e_X8_isSign_11, e_X8_isSign_12, e_X8_isSign_13, e_X8_isSign_14, e_X8_isSign_15, e_X8_isSign_16, e_X8_isSign_17, e_X8_isSign_18, e_X8_isSign_19, e_X8_isSign_20, e_X8_isSign_21, e_X8_isSign_22, e_X8_isSign_23, e_X8_isSign_24, e_X8_isSign_25, e_X8_isSign_26, e_X8_isSign_27, e_X8_isSign_28, e_X8_isSign_29, e_X8_isSign_30, e_X8_isSign_31, e_X8_isSign_32, e_X8_isSign_33, e_X8_isSign_34, e_X8_isSign_35, e_X8_isSign_36, qh, xbk_i, n1, not_false_eq_true, if_true, M.f9, M1.f8, Option.bind_some, pk_mul, pk_sub, nI_add, e1, e2, rk_1]
      rfl
    · have n2 : ¬ nI c = nI 48 := by rw [nI_eq (by omega) (by omega)]; exact g2
      by_cases g3 : c = 49
      · subst g3
        obtain ⟨h1, e1, M1, s1⟩ := M.w9 (nI (10 * n + (49 - 48)))
        obtain ⟨h2, e2, M2, s2⟩ := M1.w8 (nI (i + 1))
        refine ⟨h2, _, ?_, M2, fun x hx => (by cases hx; rw [Nat.mul_comm]), s1.trans s2⟩
        simp (disch := first | assumption | omega) only [e_X8_isSign_0, e_X8_isSign_1, e_X8_isSign_2, e_X8_isSign_3, e_X8_isSign_4, e_X8_isSign_5, e_X8_isSign_6, e_X8_isSign_7, e_X8_isSign_8, e_X8_isSign_9, e_X8_isSign_10, e_X8_isSign_11, e_X8_isSign_12, e_X8_isSign_13, e_X8_isSign_14, e_X8_isSign_15, e_X8_isSign_16, e_X8_isSign_17, e_X8_isSign_18, e_X8_isSign_19, e_X8_isSign_20, e_X8_isSign_21, e_X8_isSign_22, e_X8_isSign_23, e_X8_isSign_24, e_X8_isSign_25, e_X8_isSign_26, e_X8_isSign_27, e_X8_isSign_28, e_X8_isSign_29, e_X8_isSign_30, e_X8_isSign_31, e_X8_isSign_32, e_X8_isSign_33, e_X8_isSign_34, e_X8_isSign_35, e_X8_isSign_36, qh, xbk_i, n1, n2, not_false_eq_true, if_true, if_false, M.f9, M1.f8, Option.bind_some, pk_mul, pk_sub, nI_add, e1, e2, rk_1]
        rfl
      · have n3 : ¬ nI c = nI 49 := by rw [nI_eq (by omega) (by omega)]; exact g3
        rw [if_neg g2, if_neg g3, if_neg g1]
        obtain ⟨h1, e1, M1, s1⟩ := M.w9 (nI (10 * n) + (nI c - nI 48))
        obtain ⟨h2, e2, M2, s2⟩ := M1.w8 (nI (i + 1))
        refine ⟨h2, _, ?_, M2, fun x hx => (by cases hx), s1.trans s2⟩
        simp (disch := first | assumption) only [e_X8_isSign_0, e_X8_isSign_1, e_X8_isSign_2, e_X8_isSign_3, e_X8_isSign_4, e_X8_isSign_5, e_X8_isSign_6, e_X8_isSign_7, e_X8_isSign_8, e_X8_isSign_9, e_X8_isSign_10, e_X8_isSign_11, e_X8_isSign_12, e_X8_isSign_13, e_X8_isSign_14, e_X8_isSign_15, e_X8_isSign_16, e_X8_isSign_17, e_X8_isSign_18, e_X8_isSign_19, e_X8_isSign_20, e_X8_isSign_21, e_X8_isSign_22, e_X8_isSign_23, e_X8_isSign_24, e_X8_isSign_25, e_X8_isSign_26, e_X8_isSign_27, e_X8_isSign_28, e_X8_isSign_29, e_X8_isSign_30, e_X8_isSign_31, e_X8_isSign_32, e_X8_isSign_33, e_X8_isSign_34, e_X8_isSign_35, e_X8_isSign_36, qh, xbk_i, n1, n2, n3, not_false_eq_true, if_true, if_false, M.f9, M1.f8, Option.bind_some, pk_mul, e1, nI_add, e2, rk_0]
        rfl
end Md29R
