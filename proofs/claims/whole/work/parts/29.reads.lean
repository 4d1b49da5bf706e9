/-! READING a whole rule -/
theorem q_isSpan {d : Nat} (f t : Int32) {h : XH} : xc XP d 101 [.int f, .int t] h = some (some (.int (bI (decide (nI 0 ≤ f ∧ f ≤ t ∧ t < nI 16)))), h) := by
  rw [n_X7_isSpan]
  simp only [e_X7_isSpan_0, e_X7_isSpan_1, e_X7_isSpan_2, e_X7_isSpan_3, e_X7_isSpan_4, e_X7_isSpan_5, e_X7_isSpan_6, e_X7_isSpan_7, e_X7_isSpan_8, e_X7_isSpan_9, e_X7_isSpan_10, e_X7_isSpan_11, rk_0, rk_1, if_true]
  by_cases h1 : f < nI 0
  · rw [if_pos h1, decide_eq_false (fun hh => absurd h1 (Int32.not_lt.mpr hh.1))]; rfl
  · rw [if_neg h1]
    by_cases h2 : t < f
    · rw [if_pos h2, decide_eq_false (fun hh => absurd h2 (Int32.not_lt.mpr hh.2.1))]; rfl
    · rw [if_neg h2]
      by_cases h3 : nI 16 ≤ t
      · rw [if_pos h3, decide_eq_false (fun hh => absurd hh.2.2 (Int32.not_lt.mpr h3))]; rfl
      · rw [if_neg h3, decide_eq_true ⟨Int32.not_lt.mp h1, Int32.not_lt.mp h2, Int32.not_le.mp h3⟩]; rfl
/-- what is left behind a rule that was not read -/
def Rdx (h : XH) (z : Nat) : Prop := ∃ v0 v1 v2 v3 v4 v5, Rdr h z v0 v1 v2 v3 v4 v5
theorem Rdr.x {h : XH} {z : Nat} {v0 v1 v2 v3 v4 v5 : Int32} (T : Rdr h z v0 v1 v2 v3 v4 v5) : Rdx h z := ⟨_, _, _, _, _, _, T⟩
def RdG (h h' : XH) (z : Nat) (o : Option (Rl × Nat)) : Prop := Same h h' z (z + 1) ∧ Rdx h' z ∧ ∀ q n, o = some (q, n) → Rdr h' z (nI n) (nI q.1) (nI q.2.1) (nI q.2.2.1) (nI q.2.2.2.1) (nI q.2.2.2.2)
section ReadsR
variable {h : XH} {z x : Nat} {v0 v1 v2 v3 v4 v5 : Int32} {tx : List Nat}
theorem q_reads4 {d k hd f t i : Nat} {a2 : Value} (T : Rdr h z (nI i) (nI k) (nI hd) (nI f) (nI t) v5) (X : Txt h x tx) (hx : z < x ∨ x + 2 ≤ z) (hi : i < 900) :
    ∃ h', xe XP (d + 2) 37 (66, [.ref z, .ref x, a2], [], h) = some (some (.int (bI (rulS4 tx k hd f t i).isSome)), h') ∧ RdG h h' z (rulS4 tx k hd f t i) := by
  have c0 := T.c
  obtain ⟨h1, e1, T1, s1⟩ := q_figure T X (d := d) (by omega)
  obtain ⟨h2, e2, T2, s2⟩ := Rdr.w (k := 5) (y := oI (figS tx i)) T1 (by simp)
  have X2 := (X.same s1 (by omega)).same s2 (by omega)
  unfold rulS4
  cases hf : figS tx i with
  | none =>
    rw [hf] at e1 e2 T2
    simp only [Option.map_some, Option.map_none, oI_some, oI_none] at e1 e2
    have T2 : Rdr h2 z (nI i) (nI k) (nI hd) (nI f) (nI t) (-4) := T2
    have c2 := T2.c
    refine ⟨h2, ?_, s1.trans s2, T2.x, fun q n hq => by cases hq⟩
    simp (disch := first | assumption | omega) only [e_X4_reads_66, e_X4_reads_67, e_X4_reads_68, e_X4_reads_69, e_X4_reads_70, e_X4_reads_71, e_X4_reads_72, e_X4_reads_73, e_X4_reads_74, e_X4_reads_75, e_X4_reads_76, e_X4_reads_77, e_X4_reads_78, e_X4_reads_79, e_X4_reads_80, e_X4_reads_81, e_X4_reads_82, e1, e2, xbk_i, Option.bind_some, T2.f5, m4_lt0, if_true, rk_0]
    rfl
  | some a =>
    rw [hf] at e1 e2 T2
    simp only [Option.map_some, Option.map_none, oI_some, oI_none] at e1 e2
    have T2 : Rdr h2 z (nI (i + 1)) (nI k) (nI hd) (nI f) (nI t) (nI a) := T2
    have ha := figS_lt hf
    have c2 := T2.c
    obtain ⟨h3, e3, T3, s3⟩ := q_passes T2 X2 hx (d := d + 0) (c := 59) (by omega) (by omega)
    refine ⟨h3, ?_, (s1.trans s2).trans s3, T3.x, fun q n hq => ?_⟩
    · simp (disch := first | assumption | omega) only [e_X4_reads_66, e_X4_reads_67, e_X4_reads_68, e_X4_reads_69, e_X4_reads_70, e_X4_reads_71, e_X4_reads_72, e_X4_reads_73, e_X4_reads_74, e_X4_reads_75, e_X4_reads_76, e_X4_reads_77, e_X4_reads_78, e_X4_reads_79, e_X4_reads_80, e_X4_reads_81, e_X4_reads_82, e1, e2, xbk_i, Option.bind_some, T2.f5, oI_some, nI_lt0, if_f, e3, bI_0]
      cases hb : isC tx (i + 1) 59 <;> simp [rk_0, rk_1, bI]
    · cases hb : isC tx (i + 1) 59 with
      | false => simp [hb] at hq
      | true => simp [hb] at hq; obtain ⟨rfl, rfl⟩ := hq; simpa [hb] using T3
theorem q_reads3 {d k hd f i : Nat} {a2 : Value} (T : Rdr h z (nI i) (nI k) (nI hd) (nI f) v4 v5) (X : Txt h x tx) (hx : z < x ∨ x + 2 ≤ z) (hf : f < 100) (hi : i < 890) :
    ∃ h', xe XP (d + 3) 37 (48, [.ref z, .ref x, a2], [], h) = some (some (.int (bI (rulS3 tx k hd f i).isSome)), h') ∧ RdG h h' z (rulS3 tx k hd f i) := by
  have c0 := T.c
  obtain ⟨h1, j, e1, T1, hj, s1⟩ := q_number T X hx (d := d) (by omega)
  obtain ⟨h2, e2, T2, s2⟩ := Rdr.w (k := 4) (y := oI ((numS tx i).map fun q => q.1)) T1 (by simp)
  have X2 := (X.same s1 (by omega)).same s2 (by omega)
  unfold rulS3
  cases hn : numS tx i with
  | none =>
    rw [hn] at e1 e2 T2
    simp only [Option.map_some, Option.map_none, oI_some, oI_none] at e1 e2
    have T2 : Rdr h2 z (nI j) (nI k) (nI hd) (nI f) (-4) v5 := T2
    have c2 := T2.c
    refine ⟨h2, ?_, s1.trans s2, T2.x, fun q n hq => by cases hq⟩
    have hs : decide (nI 0 ≤ nI f ∧ nI f ≤ -4 ∧ (-4 : Int32) < nI 16) = false := decide_eq_false (fun hh => by
      have := Int32.le_trans hh.1 hh.2.1
      exact absurd this (by decide))
    simp (disch := first | assumption | omega) only [e_X4_reads_48, e_X4_reads_49, e_X4_reads_50, e_X4_reads_51, e_X4_reads_52, e_X4_reads_53, e_X4_reads_54, e_X4_reads_55, e_X4_reads_56, e_X4_reads_57, e_X4_reads_58, e_X4_reads_59, e_X4_reads_60, e_X4_reads_61, e_X4_reads_62, e_X4_reads_63, e_X4_reads_64, e_X4_reads_65, e1, e2, xbk_i, Option.bind_some, T2.f3, T2.f4, q_isSpan, Option.map_none, oI_none, hs, bI_f, if_true, rk_0]
    rfl
  | some p =>
    obtain ⟨t, j2⟩ := p
    obtain rfl := hj _ hn
    rw [hn] at e1 e2 T2
    simp only [Option.map_some, Option.map_none, oI_some, oI_none] at e1 e2
    have ht := numS_lt hn
    have T2 : Rdr h2 z (nI j) (nI k) (nI hd) (nI f) (nI t) v5 := T2
    have c2 := T2.c
    have hs : decide (nI 0 ≤ nI f ∧ nI f ≤ nI t ∧ nI t < nI 16) = decide (f ≤ t ∧ t < 16) := by
      apply decide_eq_decide.mpr
      rw [nI_leI (by omega) (by omega), nI_leI (by omega) (by omega), nI_ltI (by omega) (by omega)]
      omega
    obtain ⟨h3, e3, T3, s3⟩ := q_passes T2 X2 hx (d := d + 1) (c := 44) (by omega) (by omega)
    by_cases hr : f ≤ t ∧ t < 16
    · cases hb : isC tx j 44 with
      | false =>
        refine ⟨h3, ?_, (s1.trans s2).trans s3, T3.x, fun q n hq => by simp [hb] at hq⟩
        simp (disch := first | assumption | omega) only [e_X4_reads_48, e_X4_reads_49, e_X4_reads_50, e_X4_reads_51, e_X4_reads_52, e_X4_reads_53, e_X4_reads_54, e_X4_reads_55, e_X4_reads_56, e_X4_reads_57, e_X4_reads_58, e_X4_reads_59, e_X4_reads_60, e_X4_reads_61, e_X4_reads_62, e_X4_reads_63, e_X4_reads_64, e_X4_reads_65, e1, e2, xbk_i, Option.bind_some, T2.f3, T2.f4, q_isSpan, Option.map_some, oI_some, hs, hr, e3, bI_0, hb, rk_0, if_true, if_false, decide_true, and_self, not_true, Bool.true_eq_false, and_false, Bool.false_eq_true]
        rfl
      | true =>
        rw [hb, if_pos rfl] at T3
        have X3 := X2.same s3 (by omega)
        obtain ⟨h4, e4, g4⟩ := q_reads4 (d := d + 1) (a2 := a2) T3 X3 hx (by omega)
        refine ⟨h4, ?_, ?_⟩
        · simp (disch := first | assumption | omega) only [e_X4_reads_48, e_X4_reads_49, e_X4_reads_50, e_X4_reads_51, e_X4_reads_52, e_X4_reads_53, e_X4_reads_54, e_X4_reads_55, e_X4_reads_56, e_X4_reads_57, e_X4_reads_58, e_X4_reads_59, e_X4_reads_60, e_X4_reads_61, e_X4_reads_62, e_X4_reads_63, e_X4_reads_64, e_X4_reads_65, e1, e2, xbk_i, Option.bind_some, T2.f3, T2.f4, q_isSpan, Option.map_some, oI_some, hs, hr, e3, bI_0, hb, rk_0, if_true, if_false, decide_true, and_self, not_true, Bool.true_eq_false, and_false, Bool.false_eq_true, not_false_eq_true, e4]
        · simp only [hr, hb, and_self, if_true]
          exact ⟨((s1.trans s2).trans s3).trans g4.1, g4.2⟩
    · refine ⟨h2, ?_, s1.trans s2, T2.x, fun q n hq => by simp [hr] at hq⟩
      simp (disch := first | assumption | omega) only [e_X4_reads_48, e_X4_reads_49, e_X4_reads_50, e_X4_reads_51, e_X4_reads_52, e_X4_reads_53, e_X4_reads_54, e_X4_reads_55, e_X4_reads_56, e_X4_reads_57, e_X4_reads_58, e_X4_reads_59, e_X4_reads_60, e_X4_reads_61, e_X4_reads_62, e_X4_reads_63, e_X4_reads_64, e_X4_reads_65, e1, e2, xbk_i, Option.bind_some, T2.f3, T2.f4, q_isSpan, Option.map_some, oI_some, hs, hr, bI_0, rk_0, if_true, if_false, decide_false, false_and]
      rfl
theorem q_reads2 {d k hd i : Nat} {a2 : Value} (T : Rdr h z (nI i) (nI k) (nI hd) v3 v4 v5) (X : Txt h x tx) (hx : z < x ∨ x + 2 ≤ z) (hi : i < 880) :
    ∃ h', xe XP (d + 3) 37 (33, [.ref z, .ref x, a2], [], h) = some (some (.int (bI (rulS2 tx k hd i).isSome)), h') ∧ RdG h h' z (rulS2 tx k hd i) := by
  have c0 := T.c
  obtain ⟨h1, j, e1, T1, hj, s1⟩ := q_number T X hx (d := d) (by omega)
  obtain ⟨h2, e2, T2, s2⟩ := Rdr.w (k := 3) (y := oI ((numS tx i).map fun q => q.1)) T1 (by simp)
  have X2 := (X.same s1 (by omega)).same s2 (by omega)
  unfold rulS2
  cases hn : numS tx i with
  | none =>
    rw [hn] at e1 e2 T2
    simp only [Option.map_some, Option.map_none, oI_some, oI_none] at e1 e2
    have T2 : Rdr h2 z (nI j) (nI k) (nI hd) (-4) v4 v5 := T2
    have c2 := T2.c
    refine ⟨h2, ?_, s1.trans s2, T2.x, fun q n hq => by cases hq⟩
    simp (disch := first | assumption | omega) only [e_X4_reads_33, e_X4_reads_34, e_X4_reads_35, e_X4_reads_36, e_X4_reads_37, e_X4_reads_38, e_X4_reads_39, e_X4_reads_40, e_X4_reads_41, e_X4_reads_42, e_X4_reads_43, e_X4_reads_44, e_X4_reads_45, e_X4_reads_46, e_X4_reads_47, e1, e2, xbk_i, Option.bind_some, T2.f3, Option.map_none, oI_none, m4_lt0, if_true, rk_0]
    rfl
  | some p =>
    obtain ⟨f, j2⟩ := p
    obtain rfl := hj _ hn
    rw [hn] at e1 e2 T2
    simp only [Option.map_some, Option.map_none, oI_some, oI_none] at e1 e2
    have ht := numS_lt hn
    have T2 : Rdr h2 z (nI j) (nI k) (nI hd) (nI f) v4 v5 := T2
    have c2 := T2.c
    obtain ⟨h3, e3, T3, s3⟩ := q_passes T2 X2 hx (d := d + 1) (c := 45) (by omega) (by omega)
    cases hb : isC tx j 45 with
    | false =>
      refine ⟨h3, ?_, (s1.trans s2).trans s3, T3.x, fun q n hq => by simp [hb] at hq⟩
      simp (disch := first | assumption | omega) only [e_X4_reads_33, e_X4_reads_34, e_X4_reads_35, e_X4_reads_36, e_X4_reads_37, e_X4_reads_38, e_X4_reads_39, e_X4_reads_40, e_X4_reads_41, e_X4_reads_42, e_X4_reads_43, e_X4_reads_44, e_X4_reads_45, e_X4_reads_46, e_X4_reads_47, e1, e2, xbk_i, Option.bind_some, T2.f3, Option.map_some, oI_some, nI_lt0, if_f, e3, bI_0, hb, rk_0, if_true, if_false, not_true, Bool.false_eq_true]
      rfl
    | true =>
      rw [hb, if_pos rfl] at T3
      have X3 := X2.same s3 (by omega)
      obtain ⟨h4, e4, g4⟩ := q_reads3 (d := d) (a2 := a2) T3 X3 hx ht.1 (by omega)
      refine ⟨h4, ?_, ?_⟩
      · simp (disch := first | assumption | omega) only [e_X4_reads_33, e_X4_reads_34, e_X4_reads_35, e_X4_reads_36, e_X4_reads_37, e_X4_reads_38, e_X4_reads_39, e_X4_reads_40, e_X4_reads_41, e_X4_reads_42, e_X4_reads_43, e_X4_reads_44, e_X4_reads_45, e_X4_reads_46, e_X4_reads_47, e1, e2, xbk_i, Option.bind_some, T2.f3, Option.map_some, oI_some, nI_lt0, if_f, e3, bI_0, hb, rk_0, if_true, if_false, not_true, Bool.false_eq_true, Bool.true_eq_false, not_false_eq_true, e4]
      · simp only [hb, if_true]
        exact ⟨((s1.trans s2).trans s3).trans g4.1, g4.2⟩
theorem q_reads1 {d k i : Nat} {a2 : Value} (T : Rdr h z (nI i) (nI k) v2 v3 v4 v5) (X : Txt h x tx) (hx : z < x ∨ x + 2 ≤ z) (hi : i < 870) :
    ∃ h', xe XP (d + 3) 37 (18, [.ref z, .ref x, a2], [], h) = some (some (.int (bI (rulS1 tx k i).isSome)), h') ∧ RdG h h' z (rulS1 tx k i) := by
  have c0 := T.c
  obtain ⟨h1, j, e1, T1, hj, s1⟩ := q_signs T X hx (d := d + 1) (by omega)
  obtain ⟨h2, e2, T2, s2⟩ := Rdr.w (k := 2) (y := oI (sgnS tx i)) T1 (by simp)
  have X2 := (X.same s1 (by omega)).same s2 (by omega)
  unfold rulS1
  cases hn : sgnS tx i with
  | none =>
    rw [hn] at e1 e2 T2
    simp only [Option.map_some, Option.map_none, oI_some, oI_none] at e1 e2
    have T2 : Rdr h2 z (nI j) (nI k) (-4) v3 v4 v5 := T2
    have c2 := T2.c
    refine ⟨h2, ?_, s1.trans s2, T2.x, fun q n hq => by cases hq⟩
    simp (disch := first | assumption | omega) only [e_X4_reads_18, e_X4_reads_19, e_X4_reads_20, e_X4_reads_21, e_X4_reads_22, e_X4_reads_23, e_X4_reads_24, e_X4_reads_25, e_X4_reads_26, e_X4_reads_27, e_X4_reads_28, e_X4_reads_29, e_X4_reads_30, e_X4_reads_31, e_X4_reads_32, e1, e2, xbk_i, Option.bind_some, T2.f2, oI_none, m4_lt0, if_true, rk_0]
    rfl
  | some hd =>
    obtain rfl := hj _ hn
    rw [hn] at e1 e2 T2
    simp only [Option.map_some, Option.map_none, oI_some, oI_none] at e1 e2
    have ht := sgnS_v hn
    have ht2 : hd < 1000 := by unfold vh at ht; omega
    have T2 : Rdr h2 z (nI (i + 3)) (nI k) (nI hd) v3 v4 v5 := T2
    have c2 := T2.c
    obtain ⟨h3, e3, T3, s3⟩ := q_passes T2 X2 hx (d := d + 1) (c := 44) (by omega) (by omega)
    cases hb : isC tx (i + 3) 44 with
    | false =>
      refine ⟨h3, ?_, (s1.trans s2).trans s3, T3.x, fun q n hq => by simp [hb] at hq⟩
      simp (disch := first | assumption | omega) only [e_X4_reads_18, e_X4_reads_19, e_X4_reads_20, e_X4_reads_21, e_X4_reads_22, e_X4_reads_23, e_X4_reads_24, e_X4_reads_25, e_X4_reads_26, e_X4_reads_27, e_X4_reads_28, e_X4_reads_29, e_X4_reads_30, e_X4_reads_31, e_X4_reads_32, e1, e2, xbk_i, Option.bind_some, T2.f2, oI_some, nI_lt0, if_f, e3, bI_0, hb, rk_0, if_true, if_false, not_true, Bool.false_eq_true]
      rfl
    | true =>
      rw [hb, if_pos rfl] at T3
      have X3 := X2.same s3 (by omega)
      obtain ⟨h4, e4, g4⟩ := q_reads2 (d := d) (a2 := a2) T3 X3 hx (by omega)
      refine ⟨h4, ?_, ?_⟩
      · simp (disch := first | assumption | omega) only [e_X4_reads_18, e_X4_reads_19, e_X4_reads_20, e_X4_reads_21, e_X4_reads_22, e_X4_reads_23, e_X4_reads_24, e_X4_reads_25, e_X4_reads_26, e_X4_reads_27, e_X4_reads_28, e_X4_reads_29, e_X4_reads_30, e_X4_reads_31, e_X4_reads_32, e1, e2, xbk_i, Option.bind_some, T2.f2, oI_some, nI_lt0, if_f, e3, bI_0, hb, rk_0, if_true, if_false, not_true, Bool.false_eq_true, Bool.true_eq_false, not_false_eq_true, e4]
      · simp only [hb, if_true]
        exact ⟨((s1.trans s2).trans s3).trans g4.1, g4.2⟩
theorem q_reads {d i : Nat} (R : Rdx h z) (X : Txt h x tx) (hx : z < x ∨ x + 2 ≤ z) (hi : i < 860) :
    ∃ h', xc XP (d + 3) 37 [.ref z, .ref x, .int (nI i)] h = some (some (.int (bI (rulS tx i).isSome)), h') ∧ RdG h h' z (rulS tx i) := by
  obtain ⟨v0, v1, v2, v3, v4, v5, T⟩ := R
  obtain ⟨h0, e0, T0, s0⟩ := Rdr.w (k := 0) (y := nI i) T (by simp)
  have T0 : Rdr h0 z (nI i) v1 v2 v3 v4 v5 := T0
  have X0 := X.same s0 (by omega)
  have c0 := T0.c
  obtain ⟨h1, j, e1, T1, hj, s1⟩ := q_number T0 X0 hx (d := d) (by omega)
  obtain ⟨h2, e2, T2, s2⟩ := Rdr.w (k := 1) (y := oI ((numS tx i).map fun q => q.1)) T1 (by simp)
  have X2 := (X0.same s1 (by omega)).same s2 (by omega)
  have s2' := (s0.trans s1).trans s2
  rw [n_X4_reads]
  unfold rulS
  cases hn : numS tx i with
  | none =>
    rw [hn] at e1 e2 T2
    simp only [Option.map_some, Option.map_none, oI_some, oI_none] at e1 e2
    have T2 : Rdr h2 z (nI j) (-4) v2 v3 v4 v5 := T2
    have c2 := T2.c
    refine ⟨h2, ?_, s2', T2.x, fun q n hq => by cases hq⟩
    simp (disch := first | assumption | omega) only [e_X4_reads_0, e_X4_reads_1, e_X4_reads_2, e_X4_reads_3, e_X4_reads_4, e_X4_reads_5, e_X4_reads_6, e_X4_reads_7, e_X4_reads_8, e_X4_reads_9, e_X4_reads_10, e_X4_reads_11, e_X4_reads_12, e_X4_reads_13, e_X4_reads_14, e_X4_reads_15, e_X4_reads_16, e_X4_reads_17, e0, e1, e2, xbk_i, Option.bind_some, T2.f1, Option.map_none, oI_none, m4_lt0, if_true, rk_0]
    rfl
  | some p =>
    obtain ⟨k, j2⟩ := p
    obtain rfl := hj _ hn
    rw [hn] at e1 e2 T2
    simp only [Option.map_some, Option.map_none, oI_some, oI_none] at e1 e2
    have ht := numS_lt hn
    have T2 : Rdr h2 z (nI j) (nI k) v2 v3 v4 v5 := T2
    have c2 := T2.c
    obtain ⟨h3, e3, T3, s3⟩ := q_passes T2 X2 hx (d := d + 1) (c := 44) (by omega) (by omega)
    cases hb : isC tx j 44 with
    | false =>
      refine ⟨h3, ?_, s2'.trans s3, T3.x, fun q n hq => by simp [hb] at hq⟩
      simp (disch := first | assumption | omega) only [e_X4_reads_0, e_X4_reads_1, e_X4_reads_2, e_X4_reads_3, e_X4_reads_4, e_X4_reads_5, e_X4_reads_6, e_X4_reads_7, e_X4_reads_8, e_X4_reads_9, e_X4_reads_10, e_X4_reads_11, e_X4_reads_12, e_X4_reads_13, e_X4_reads_14, e_X4_reads_15, e_X4_reads_16, e_X4_reads_17, e0, e1, e2, xbk_i, Option.bind_some, T2.f1, Option.map_some, oI_some, nI_lt0, if_f, e3, bI_0, hb, rk_0, if_true, if_false, not_true, Bool.false_eq_true]
      rfl
    | true =>
      rw [hb, if_pos rfl] at T3
      have X3 := X2.same s3 (by omega)
      obtain ⟨h4, e4, g4⟩ := q_reads1 (d := d) (a2 := .int (nI i)) T3 X3 hx (by omega)
      refine ⟨h4, ?_, ?_⟩
      · simp (disch := first | assumption | omega) only [e_X4_reads_0, e_X4_reads_1, e_X4_reads_2, e_X4_reads_3, e_X4_reads_4, e_X4_reads_5, e_X4_reads_6, e_X4_reads_7, e_X4_reads_8, e_X4_reads_9, e_X4_reads_10, e_X4_reads_11, e_X4_reads_12, e_X4_reads_13, e_X4_reads_14, e_X4_reads_15, e_X4_reads_16, e_X4_reads_17, e0, e1, e2, xbk_i, Option.bind_some, T2.f1, Option.map_some, oI_some, nI_lt0, if_f, e3, bI_0, hb, rk_0, if_true, if_false, not_true, Bool.false_eq_true, Bool.true_eq_false, not_false_eq_true, e4]
      · simp only [hb, if_true]
        exact ⟨(s2'.trans s3).trans g4.1, g4.2⟩
end ReadsR
