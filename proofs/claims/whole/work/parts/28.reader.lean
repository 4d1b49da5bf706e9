/-! READING a rule of the text -/
def figS (tx : List Nat) (i : Nat) : Option Nat := match tx[i]? with
  | none => none
  | some c => if 48 ≤ c ∧ c ≤ 57 then some (c - 48) else none
def numS (tx : List Nat) (i : Nat) : Option (Nat × Nat) := match figS tx i with
  | none => none
  | some a => match figS tx (i + 1) with
    | none => some (a, i + 1)
    | some b => some (a * 10 + b, i + 2)
def sgS (tx : List Nat) (i : Nat) : Option Nat := match tx[i]? with
  | none => none
  | some c => if c = 48 then some 0 else if c = 49 then some 1 else if c = 42 then some 2 else none
def sgnS (tx : List Nat) (i : Nat) : Option Nat := match sgS tx i with
  | none => none
  | some a => match sgS tx (i + 1) with
    | none => none
    | some b => match sgS tx (i + 2) with
      | none => none
      | some c => some ((a * 10 + b) * 10 + c)
def isC (tx : List Nat) (i c : Nat) : Bool := decide (tx[i]? = some c)
/-- the last parts of a rule: from a place on, behind the head's comma -/
def rulS4 (tx : List Nat) (k hd f t i : Nat) : Option (Rl × Nat) := match figS tx i with
  | none => none
  | some a => if isC tx (i + 1) 59 = true then some ((k, hd, f, t, a), i + 2) else none
def rulS3 (tx : List Nat) (k hd f i : Nat) : Option (Rl × Nat) := match numS tx i with
  | none => none
  | some (t, j) => if (f ≤ t ∧ t < 16) ∧ isC tx j 44 = true then rulS4 tx k hd f t (j + 1) else none
def rulS2 (tx : List Nat) (k hd i : Nat) : Option (Rl × Nat) := match numS tx i with
  | none => none
  | some (f, j) => if isC tx j 45 = true then rulS3 tx k hd f (j + 1) else none
def rulS1 (tx : List Nat) (k i : Nat) : Option (Rl × Nat) := match sgnS tx i with
  | none => none
  | some hd => if isC tx (i + 3) 44 = true then rulS2 tx k hd (i + 4) else none
def rulS (tx : List Nat) (i : Nat) : Option (Rl × Nat) := match numS tx i with
  | none => none
  | some (k, j) => if isC tx j 44 = true then rulS1 tx k (j + 1) else none
theorem figS_lt {tx : List Nat} {i a : Nat} (h : figS tx i = some a) : a < 10 ∧ i < tx.length := by
  unfold figS at h
  split at h
  · cases h
  · next c hc =>
    split at h
    · cases h; exact ⟨by omega, (List.getElem?_eq_some_iff.mp hc).1⟩
    · cases h
theorem numS_lt {tx : List Nat} {i a j : Nat} (h : numS tx i = some (a, j)) : a < 100 ∧ i + 1 ≤ j ∧ j ≤ i + 2 ∧ j ≤ tx.length := by
  unfold numS at h
  split at h
  · cases h
  · next x hx =>
    have h1 := figS_lt hx
    split at h
    · cases h; omega
    · next y hy =>
      have h2 := figS_lt hy
      cases h
      omega
theorem sgS_lt {tx : List Nat} {i a : Nat} (h : sgS tx i = some a) : a < 3 ∧ i < tx.length := by
  unfold sgS at h
  split at h
  · cases h
  · next c hc =>
    have := (List.getElem?_eq_some_iff.mp hc).1
    repeat (split at h; (cases h; omega))
    cases h
theorem sgnS_v {tx : List Nat} {i a : Nat} (h : sgnS tx i = some a) : vh a := by
  unfold sgnS at h
  split at h
  · cases h
  · next x hx =>
    split at h
    · cases h
    · next y hy =>
      split at h
      · cases h
      · next z hz =>
        have h1 := sgS_lt hx
        have h2 := sgS_lt hy
        have h3 := sgS_lt hz
        cases h
        unfold vh
        omega
theorem isC_lt {tx : List Nat} {i c : Nat} (h : isC tx i c = true) : i < tx.length := by
  unfold isC at h
  simp at h
  exact (List.getElem?_eq_some_iff.mp h).1
theorem rulS_of {tx : List Nat} {i n : Nat} {q : Rl} (h : rulS tx i = some (q, n)) : vr q ∧ i + 12 ≤ n ∧ n ≤ tx.length := by
  unfold rulS at h
  split at h
  · cases h
  · next k j hk =>
    have a1 := numS_lt hk
    split at h
    · unfold rulS1 at h
      split at h
      · cases h
      · next hd hhd =>
        have a2 := sgnS_v hhd
        split at h
        · unfold rulS2 at h
          split at h
          · cases h
          · next f j2 hf =>
            have a3 := numS_lt hf
            split at h
            · unfold rulS3 at h
              split at h
              · cases h
              · next t j3 ht =>
                have a4 := numS_lt ht
                split at h
                · next hc =>
                  unfold rulS4 at h
                  split at h
                  · cases h
                  · next a ha =>
                    have a5 := figS_lt ha
                    split at h
                    · next hc2 =>
                      have a6 := isC_lt hc2
                      cases h
                      exact ⟨⟨a1.1, a2, hc.1.1, hc.1.2, a5.1⟩, by omega, by omega⟩
                    · cases h
                · cases h
            · cases h
        · cases h
    · cases h
/-- the reader's cell -/
def Rdr (h : XH) (z : Nat) (v0 v1 v2 v3 v4 v5 : Int32) : Prop := h[z]? = some (.inl (4, [.int v0, .int v1, .int v2, .int v3, .int v4, .int v5]))
section RdrR
variable {h : XH} {z x i : Nat} {v0 v1 v2 v3 v4 v5 : Int32} {tx : List Nat}
theorem Rdr.c (T : Rdr h z v0 v1 v2 v3 v4 v5) : xcls h (.ref z) = some 4 := xcls_o T
theorem Rdr.f0 (T : Rdr h z v0 v1 v2 v3 v4 v5) : xgf h z 4 0 = some (.int v0) := xgf_o T 0
theorem Rdr.f1 (T : Rdr h z v0 v1 v2 v3 v4 v5) : xgf h z 4 1 = some (.int v1) := xgf_o T 1
theorem Rdr.f2 (T : Rdr h z v0 v1 v2 v3 v4 v5) : xgf h z 4 2 = some (.int v2) := xgf_o T 2
theorem Rdr.f3 (T : Rdr h z v0 v1 v2 v3 v4 v5) : xgf h z 4 3 = some (.int v3) := xgf_o T 3
theorem Rdr.f4 (T : Rdr h z v0 v1 v2 v3 v4 v5) : xgf h z 4 4 = some (.int v4) := xgf_o T 4
theorem Rdr.f5 (T : Rdr h z v0 v1 v2 v3 v4 v5) : xgf h z 4 5 = some (.int v5) := xgf_o T 5
/-- a field of the reader is written -/
theorem Rdr.w {fs : List Value} {k : Nat} {y : Int32} (T : h[z]? = some (.inl (4, fs))) (hk : k < fs.length) : ∃ h', xpf h z 4 k (.int y) = some h' ∧ h'[z]? = some (.inl (4, fs.set k (.int y))) ∧ Same h h' z (z + 1) :=
  ⟨_, xpf_o T hk _, get_set T _, (Same.refl h z (z + 1)).set (by omega) (by omega) _⟩
theorem ltA_none {tx : List Nat} {i : Nat} (h : tx[i]? = none) : ltA tx i = -4 := by unfold ltA; rw [h]; rfl
theorem ltA_some {tx : List Nat} {i c : Nat} (h : tx[i]? = some c) : ltA tx i = nI c := by unfold ltA; rw [h]; rfl
theorem q_passes (T : Rdr h z (nI i) v1 v2 v3 v4 v5) (X : Txt h x tx) (hx : z < x ∨ x + 2 ≤ z) {d c : Nat} (hi : i < 1000) (hc : c < 1000) : ∃ h', xc XP (d + 1) 38 [.ref z, .ref x, .int (nI c)] h = some (some (.int (bI (isC tx i c))), h') ∧ Rdr h' z (nI (if isC tx i c = true then i + 1 else i)) v1 v2 v3 v4 v5 ∧ Same h h' z (z + 1) := by
  have c1 := X.c
  have hlt : (ltA tx i = nI c) = (isC tx i c = true) := by
    unfold isC
    cases hq : tx[i]? with
    | none => rw [ltA_none hq]; simp; exact fun e => nI_n4 (show c < 2 ^ 31 by omega) e.symm
    | some y =>
      have hy := X.2.1 y (List.mem_of_getElem? hq)
      rw [ltA_some hq]
      simp only [decide_eq_true_eq, Option.some.injEq, eq_iff_iff]
      exact nI_eq (by omega) (by omega)
  cases hb : isC tx i c with
  | false =>
    refine ⟨h, ?_, by simpa using T, Same.refl _ _ _⟩
    rw [n_X4_passes]
    simp (disch := first | assumption | omega) only [e_X4_passes_0, e_X4_passes_1, e_X4_passes_2, e_X4_passes_3, e_X4_passes_4, e_X4_passes_5, e_X4_passes_6, e_X4_passes_7, e_X4_passes_8, e_X4_passes_9, e_X4_passes_10, e_X4_passes_11, e_X4_passes_12, e_X4_passes_13, e_X4_passes_14, e_X4_passes_15, T.f0, Option.bind_some, q_letterAt X, xbk_i, hlt, hb, Bool.false_eq_true, if_false, rk_0, if_true, bI_f]
  | true =>
    obtain ⟨h1, e1, T1, s1⟩ := Rdr.w (k := 0) (y := nI (i + 1)) T (by simp)
    refine ⟨h1, ?_, by rw [if_pos rfl]; exact T1, s1⟩
    rw [n_X4_passes]
    simp (disch := first | assumption | omega) only [e_X4_passes_0, e_X4_passes_1, e_X4_passes_2, e_X4_passes_3, e_X4_passes_4, e_X4_passes_5, e_X4_passes_6, e_X4_passes_7, e_X4_passes_8, e_X4_passes_9, e_X4_passes_10, e_X4_passes_11, e_X4_passes_12, e_X4_passes_13, e_X4_passes_14, e_X4_passes_15, T.f0, Option.bind_some, q_letterAt X, xbk_i, hlt, hb, if_true, rk_1, bI_t, nI_add, e1]
theorem q_figure (T : Rdr h z (nI i) v1 v2 v3 v4 v5) (X : Txt h x tx) {d : Nat} (hi : i < 1000) : ∃ h', xc XP (d + 1) 39 [.ref z, .ref x] h = some (some (.int (oI (figS tx i))), h') ∧ Rdr h' z (nI (if (figS tx i).isSome = true then i + 1 else i)) v1 v2 v3 v4 v5 ∧ Same h h' z (z + 1) := by
  have c1 := X.c
  have hfail : ∀ y : Int32, ltA tx i = y → (y < nI 48 ∨ nI 57 < y) → figS tx i = none → ∃ h', xc XP (d + 1) 39 [.ref z, .ref x] h = some (some (.int (oI (figS tx i))), h') ∧ Rdr h' z (nI (if (figS tx i).isSome = true then i + 1 else i)) v1 v2 v3 v4 v5 ∧ Same h h' z (z + 1) := by
    intro y hy ho hn
    refine ⟨h, ?_, by rw [hn]; exact T, Same.refl _ _ _⟩
    rw [hn, n_X4_figure]
    simp (disch := first | assumption | omega) only [e_X4_figure_0, e_X4_figure_1, e_X4_figure_2, e_X4_figure_3, e_X4_figure_4, e_X4_figure_5, e_X4_figure_6, e_X4_figure_7, e_X4_figure_8, e_X4_figure_9, e_X4_figure_10, e_X4_figure_11, e_X4_figure_12, T.f0, Option.bind_some, q_letterAt X, xbk_i, hy]
    rcases ho with ho | ho
    · simp only [ho, if_true, e_X4_figure_11, e_X4_figure_12]; rfl
    · by_cases g : y < nI 48
      · simp only [g, if_true]; rfl
      · simp only [g, if_false, Int32.not_le.mpr ho]; rfl
  cases hq : tx[i]? with
  | none => exact hfail _ (ltA_none hq) (Or.inl (by decide)) (by unfold figS; rw [hq])
  | some c =>
    have hy := X.2.1 c (List.mem_of_getElem? hq)
    by_cases hr : 48 ≤ c ∧ c ≤ 57
    · have hf : figS tx i = some (c - 48) := by unfold figS; rw [hq]; simp [hr]
      obtain ⟨h1, e1, T1, s1⟩ := Rdr.w (k := 0) (y := nI (i + 1)) T (by simp)
      refine ⟨h1, ?_, by rw [hf]; exact T1, s1⟩
      rw [hf, n_X4_figure]
      simp (disch := first | assumption | omega) only [e_X4_figure_0, e_X4_figure_1, e_X4_figure_2, e_X4_figure_3, e_X4_figure_4, e_X4_figure_5, e_X4_figure_6, e_X4_figure_7, e_X4_figure_8, e_X4_figure_9, e_X4_figure_10, e_X4_figure_11, e_X4_figure_12, e_X4_figure_13, e_X4_figure_14, e_X4_figure_15, e_X4_figure_16, e_X4_figure_17, e_X4_figure_18, e_X4_figure_19, e_X4_figure_20, e_X4_figure_21, e_X4_figure_22, T.f0, Option.bind_some, q_letterAt X, xbk_i, ltA_some hq, nI_ltI, nI_leI, if_f, if_t, nI_add, e1, pk_sub]
      rfl
    · refine hfail _ (ltA_some hq) ?_ (by unfold figS; rw [hq]; simp [hr])
      by_cases g : c < 48
      · exact Or.inl ((nI_ltI (by omega) (by decide)).mpr g)
      · exact Or.inr ((nI_ltI (by decide) (by omega)).mpr (by omega))
theorem Rdr.txt {h' : XH} (X : Txt h x tx) (hx : z < x ∨ x + 2 ≤ z) (s : Same h h' z (z + 1)) : Txt h' x tx := X.same s (by omega)
theorem q_number (T : Rdr h z (nI i) v1 v2 v3 v4 v5) (X : Txt h x tx) (hx : z < x ∨ x + 2 ≤ z) {d : Nat} (hi : i < 900) : ∃ h' j, xc XP (d + 2) 40 [.ref z, .ref x] h = some (some (.int (oI ((numS tx i).map fun q => q.1))), h') ∧ Rdr h' z (nI j) v1 v2 v3 v4 v5 ∧ (∀ q, numS tx i = some q → j = q.2) ∧ Same h h' z (z + 1) := by
  have c1 := T.c
  obtain ⟨h1, e1, T1, s1⟩ := q_figure T X (d := d) (by omega)
  have X1 := X.same s1 (by omega)
  have c2 := T1.c
  rw [n_X4_number]
  simp (disch := first | assumption | omega) only [e_X4_number_0, e_X4_number_1, e_X4_number_2, e_X4_number_3, e_X4_number_4, e1, xbk_i]
  cases hf : figS tx i with
  | none =>
    refine ⟨h1, i, ?_, by rw [hf] at T1; exact T1, fun q hq => (by unfold numS at hq; rw [hf] at hq; cases hq), s1⟩
    simp only [e_X4_number_5, e_X4_number_6, e_X4_number_7, oI_none, m4_ge0, if_false]
    unfold numS
    rw [hf]
    rfl
  | some a =>
    have ha := figS_lt hf
    rw [hf] at T1
    have T1 : Rdr h1 z (nI (i + 1)) v1 v2 v3 v4 v5 := T1
    obtain ⟨h2, e2, T2, s2⟩ := q_figure T1 X1 (d := d) (by omega)
    simp (disch := first | assumption | omega) only [e_X4_number_5, e_X4_number_8, e_X4_number_9, e_X4_number_10, e_X4_number_11, e_X4_number_12, e_X4_number_13, oI_some, nI_ge0, if_t, e2, xbk_i]
    cases hg : figS tx (i + 1) with
    | none =>
      rw [hg] at T2
      refine ⟨h2, i + 1, ?_, T2, fun q hq => by unfold numS at hq; rw [hf, hg] at hq; cases hq; rfl, s1.trans s2⟩
      simp only [e_X4_number_14, e_X4_number_15, e_X4_number_21, oI_none, m4_ge0, if_false]
      unfold numS
      rw [hf]
      simp only [hg]
      rfl
    | some b =>
      have hb := figS_lt hg
      rw [hg] at T2
      have T2 : Rdr h2 z (nI (i + 1 + 1)) v1 v2 v3 v4 v5 := T2
      refine ⟨h2, i + 2, ?_, T2, fun q hq => by unfold numS at hq; rw [hf, hg] at hq; cases hq; rfl, s1.trans s2⟩
      simp (disch := first | assumption | omega) only [e_X4_number_16, e_X4_number_17, e_X4_number_18, e_X4_number_19, e_X4_number_20, e_X4_number_21, oI_some, nI_ge0, if_t, pk_mul, nI_add]
      unfold numS
      rw [hf]
      simp only [hg]
      rfl
theorem q_sign {d : Nat} {tx : List Nat} {i : Nat} (hv : ∀ c ∈ tx, c < 1000) {h : XH} : xc XP d 42 [.int (ltA tx i)] h = some (some (.int (oI (sgS tx i))), h) := by
  rw [n_X4_sign]
  simp only [e_X4_sign_0, e_X4_sign_1]
  unfold sgS
  cases hq : tx[i]? with
  | none =>
    rw [ltA_none hq]
    rw [show xlk [(42, 6), (48, 2), (49, 4)] 8 (-4 : Int32).toInt = 8 by decide]
    simp only [e_X4_sign_8, e_X4_sign_9]
    rfl
  | some c =>
    have hc := hv c (List.mem_of_getElem? hq)
    rw [ltA_some hq, nI_toInt (by omega)]
    simp only [xlk]
    by_cases g1 : c = 42
    · subst g1; simp [e_X4_sign_6, e_X4_sign_7]; rfl
    · by_cases g2 : c = 48
      · subst g2; simp [e_X4_sign_2, e_X4_sign_3]; rfl
      · by_cases g3 : c = 49
        · subst g3; simp [e_X4_sign_4, e_X4_sign_5]; rfl
        · rw [if_neg (by omega), if_neg (by omega), if_neg (by omega)]
          simp only [e_X4_sign_8, e_X4_sign_9, g1, g2, g3, if_false]
          rfl
theorem q_signs (T : Rdr h z (nI i) v1 v2 v3 v4 v5) (X : Txt h x tx) (hx : z < x ∨ x + 2 ≤ z) {d : Nat} (hi : i < 900) : ∃ h' j, xc XP (d + 1) 41 [.ref z, .ref x] h = some (some (.int (oI (sgnS tx i))), h') ∧ Rdr h' z (nI j) v1 v2 v3 v4 v5 ∧ (∀ q, sgnS tx i = some q → j = i + 3) ∧ Same h h' z (z + 1) := by
  rw [n_X4_signs]
  simp only [e_X4_signs_0, e_X4_signs_1, e_X4_signs_2, e_X4_signs_3]
  have step : ∀ (n a k : Nat) (w : Value) (h1 : XH), n < 3 → a < 100 → k < 1000 → Rdr h1 z (nI k) v1 v2 v3 v4 v5 → Txt h1 x tx →
      (sgS tx k = none → xe XP (d + 1) 41 (4, [.ref z, .ref x, .int (nI a), .int (nI n), w], [], h1) = some (some (.int (-4)), h1)) ∧
      (∀ c, sgS tx k = some c → ∃ h2 w2, xe XP (d + 1) 41 (4, [.ref z, .ref x, .int (nI a), .int (nI n), w], [], h1) = xe XP (d + 1) 41 (4, [.ref z, .ref x, .int (nI (a * 10 + c)), .int (nI (n + 1)), w2], [], h2) ∧ Rdr h2 z (nI (k + 1)) v1 v2 v3 v4 v5 ∧ Txt h2 x tx ∧ Same h1 h2 z (z + 1)) := by
    intro n a k w h1 hn ha hk T1 X1
    have c1 := X1.c
    have hsg := q_sign (d := d) (tx := tx) (i := k) X1.2.1 (h := h1)
    refine ⟨fun hs => ?_, fun c hs => ?_⟩
    · simp (disch := first | assumption | omega) only [e_X4_signs_4, e_X4_signs_5, e_X4_signs_6, e_X4_signs_7, e_X4_signs_8, e_X4_signs_9, e_X4_signs_10, e_X4_signs_11, e_X4_signs_12, e_X4_signs_13, e_X4_signs_14, e_X4_signs_15, e_X4_signs_16, T1.f0, Option.bind_some, q_letterAt X1, hsg, hs, oI_none, m4_ge0, if_false, xbk_i, nI_leI, if_f]
    · have hc := sgS_lt hs
      obtain ⟨h2, e2, T2, s2⟩ := Rdr.w (k := 0) (y := nI (k + 1)) T1 (by simp)
      refine ⟨h2, .int (nI c), ?_, T2, X1.same s2 (by omega), s2⟩
      rw [e_X4_signs_4]
      simp (disch := first | assumption | omega) only [e_X4_signs_5, e_X4_signs_6, e_X4_signs_7, e_X4_signs_8, e_X4_signs_9, e_X4_signs_10, e_X4_signs_11, e_X4_signs_12, e_X4_signs_13, e_X4_signs_14, e_X4_signs_15, e_X4_signs_16, e_X4_signs_17, e_X4_signs_18, e_X4_signs_19, e_X4_signs_20, e_X4_signs_21, e_X4_signs_22, e_X4_signs_23, e_X4_signs_24, e_X4_signs_25, e_X4_signs_26, e_X4_signs_27, e_X4_signs_28, e_X4_signs_29, e_X4_signs_30, T1.f0, Option.bind_some, q_letterAt X1, hsg, hs, oI_some, nI_ge0, if_t, xbk_i, nI_leI, if_f, pk_mul, nI_add, e2]
  obtain ⟨n1, y1⟩ := step 0 0 i .null h (by omega) (by omega) (by omega) T X
  unfold sgnS
  cases ha : sgS tx i with
  | none => exact ⟨h, i, n1 ha, T, fun q hq => (by cases hq), Same.refl _ _ _⟩
  | some a =>
    have la := sgS_lt ha
    obtain ⟨h2, w2, e2, T2, X2, s2⟩ := y1 a ha
    obtain ⟨n3, y3⟩ := step 1 (0 * 10 + a) (i + 1) w2 h2 (by omega) (by omega) (by omega) T2 X2
    rw [e2]
    cases hb : sgS tx (i + 1) with
    | none => exact ⟨h2, i + 1, n3 hb, T2, fun q hq => by simp [hb] at hq, s2⟩
    | some b =>
      have lb := sgS_lt hb
      obtain ⟨h3, w3, e3, T3, X3, s3⟩ := y3 b hb
      obtain ⟨n4, y4⟩ := step 2 ((0 * 10 + a) * 10 + b) (i + 2) w3 h3 (by omega) (by omega) (by omega) T3 X3
      rw [e3]
      cases hc : sgS tx (i + 2) with
      | none => exact ⟨h3, i + 2, by simp only [hb, hc]; exact n4 hc, T3, fun q hq => by simp [hb, hc] at hq, s2.trans s3⟩
      | some c =>
        have lc := sgS_lt hc
        obtain ⟨h4, w4, e4, T4, X4, s4⟩ := y4 c hc
        refine ⟨h4, i + 3, ?_, T4, fun q hq => rfl, (s2.trans s3).trans s4⟩
        rw [e4]
        simp (disch := first | assumption | omega) only [e_X4_signs_4, e_X4_signs_5, e_X4_signs_6, e_X4_signs_31, e_X4_signs_32, nI_leI, if_t, hb, hc, Nat.zero_mul, Nat.zero_add]
        rfl
end RdrR
