/-! THE CLASS: what changes -/
def aWrite (S : CS) (x : Int32) : Int32 × CS := if x < nI 32 ∨ nI 126 < x then (-1, S) else if 200 ≤ S.tx.length then (-3, S) else (nI (S.tx.length + 1), mkS (S.tx ++ [xN x]) S.l S.s S.ms S.nx S.sz S.pb)
def aWipe (S : CS) : Int32 × CS := (nI S.tx.length, mkS [] S.l S.s S.ms S.nx S.sz S.pb)
def aFault (S : CS) : Int32 := oI (rdS S.tx 17 0 []).1
def aLay (S : CS) : Int32 × CS := match (rdS S.tx 17 0 []).1 with
  | some _ => (-2, S)
  | none => if allR (rdS S.tx 17 0 []).2 ≤ 16 then (nI (rdS S.tx 17 0 []).2.length, mkS S.tx (rdS S.tx 17 0 []).2 (pk (rdS S.tx 17 0 []).2) [] S.nx 0 S.pb) else (-2, S)
/-- the board as it was is kept, and another is there -/
def kpS (S : CS) (l : List Rl) (s : Sl) (ms : Mvs) : CS := mkS S.tx l s ms ((S.nx + 1) % 5) (min (S.sz + 1) 5) (updB S.pb S.nx (S.l, S.s))
def aAdd (S : CS) (a b f t e : Int32) : Int32 × CS := match tryO S a b f t e with
  | .inl x => (x, S)
  | .inr y => (nI y.2.2.length, kpS S (S.l ++ [y.1]) y.2.1 y.2.2)
def aWould (S : CS) (a b f t : Int32) : Int32 := tryA (tryO S a b f t (nI 0))
section ClsR
variable {h : XH} {c : Nat} {S : CS} {d : Nat}
theorem Txt.clear {x : Nat} {tx : List Nat} (T : Txt h x tx) : ∃ h', xpf h x 6 1 (.int (nI 0)) = some h' ∧ Txt h' x [] ∧ Same h h' x (x + 2) := by
  obtain ⟨l1, l2, l3, f, l4, l5⟩ := T
  refine ⟨_, xpf_o l3 (k := 1) (by simp) _, ⟨by simp, by simp, get_set l3 _, f, ?_, ?_⟩, (Same.refl _ _ _).set (by omega) (by omega) _⟩
  · rw [get_ne _ (by omega)]; exact l4
  · intro j q hq; simp at hq
theorem Pst.clear {p nx sz : Nat} {pb : Nat → Bst} (Q : Pst h p nx sz pb) : ∃ h', xpf h p 2 2 (.int (nI 0)) = some h' ∧ Pst h' p nx 0 pb ∧ Same h h' p (p + 72) := by
  obtain ⟨q1, q2, q3, q4, q5⟩ := Q
  have s : Same h (h.set p (.inl (2, [.ref (p + 1), .int (nI nx), .int (nI 0)]))) p (p + 1) := (Same.refl _ _ _).set (by omega) (by omega) _
  refine ⟨_, xpf_o q3 (k := 2) (by simp) _, ⟨q1, by omega, get_set q3 _, ?_, ?_⟩, s.weak (by omega) (by omega)⟩
  · rw [get_ne _ (by omega)]; exact q4
  · intro i hi
    exact (q5 i hi).same s (by omega)
theorem q_write (K : Cr h c S) (x : Int32) : ∃ h', xc XP (d + 14) 78 [.ref c, .int x] h = some (some (.int (aWrite S x).1), h') ∧ Cr h' c (aWrite S x).2 ∧ Same h h' c (c + 110) := by
  have O := K.O
  have c1 := K.X.c
  by_cases g1 : x < nI 32
  · refine ⟨h, ?_, by unfold aWrite; rw [if_pos (Or.inl g1)]; exact K, Same.refl _ _ _⟩
    unfold aWrite
    rw [if_pos (Or.inl g1), n_X7_write]
    simp only [e_X7_write_0, e_X7_write_1, e_X7_write_2, e_X7_write_3, e_X7_write_4, e_X7_write_5, e_X7_write_6, e_X7_write_7, g1, if_true]
  · by_cases g2 : x ≤ nI 126
    · obtain ⟨n, hn, rfl⟩ := nn_of (x := x) (Int32.le_trans (by decide) (Int32.not_lt.mp g1))
      rw [nI_ltI hn (by decide)] at g1
      rw [nI_leI hn (by decide)] at g2
      have hno : ¬ (nI n < nI 32 ∨ nI 126 < nI n) := by rw [nI_ltI hn (by decide), nI_ltI (by decide) hn]; omega
      unfold aWrite
      rw [if_neg hno]
      have h200 := K.X.1
      by_cases g3 : 200 ≤ S.tx.length
      · rw [if_pos g3]
        refine ⟨h, ?_, K, Same.refl _ _ _⟩
        rw [n_X7_write]
        simp (disch := first | assumption | omega) only [e_X7_write_0, e_X7_write_1, e_X7_write_2, e_X7_write_3, e_X7_write_4, e_X7_write_5, e_X7_write_6, e_X7_write_7, e_X7_write_8, e_X7_write_9, e_X7_write_10, e_X7_write_11, e_X7_write_12, e_X7_write_13, e_X7_write_14, e_X7_write_15, e_X7_write_16, e_X7_write_17, e_X7_write_18, nI_ltI, if_f, nI_leI, if_t, O.f0, Option.bind_some, q_appendT_full K.X, xbk_i, if_true]
      · rw [if_neg g3, xN_nI hn]
        obtain ⟨h1, e1, X1, s1⟩ := q_appendT K.X (d := d + 13) (c := n) (by omega) (by omega)
        refine ⟨h1, ?_, ⟨O.same s1 (by omega), X1, K.Z.same s1 (by omega), K.B.same s1 (by omega), K.T.same s1 (by omega), K.M.same s1 (by omega), ?_, K.Q.same s1 (by omega)⟩, s1.weak (by omega) (by omega)⟩
        · have O1 := O.same s1 (by omega)
          have hf := X1.f1
          rw [n_X7_write]
          simp (disch := first | assumption | omega) only [e_X7_write_0, e_X7_write_1, e_X7_write_2, e_X7_write_3, e_X7_write_4, e_X7_write_5, e_X7_write_6, e_X7_write_7, e_X7_write_8, e_X7_write_9, e_X7_write_10, e_X7_write_11, e_X7_write_12, e_X7_write_13, e_X7_write_14, e_X7_write_15, e_X7_write_16, e_X7_write_17, e_X7_write_18, nI_ltI, if_f, nI_leI, if_t, O.f0, Option.bind_some, e1, xbk_i, nI_eq, O1.f0, hf, List.length_append, List.length_singleton]
        · obtain ⟨ms, N⟩ := K.N
          exact ⟨ms, N.same s1 (by omega)⟩
    · have hor : x < nI 32 ∨ nI 126 < x := Or.inr (Int32.not_le.mp g2)
      refine ⟨h, ?_, by unfold aWrite; rw [if_pos hor]; exact K, Same.refl _ _ _⟩
      unfold aWrite
      rw [if_pos hor, n_X7_write]
      simp only [e_X7_write_0, e_X7_write_1, e_X7_write_2, e_X7_write_3, e_X7_write_4, e_X7_write_5, e_X7_write_6, e_X7_write_7, g1, g2, if_false]
theorem q_wipe (K : Cr h c S) : ∃ h', xc XP (d + 14) 79 [.ref c] h = some (some (.int (aWipe S).1), h') ∧ Cr h' c (aWipe S).2 ∧ Same h h' c (c + 110) := by
  have O := K.O
  obtain ⟨h1, e1, X1, s1⟩ := K.X.clear
  refine ⟨h1, ?_, ⟨O.same s1 (by omega), X1, K.Z.same s1 (by omega), K.B.same s1 (by omega), K.T.same s1 (by omega), K.M.same s1 (by omega), ?_, K.Q.same s1 (by omega)⟩, s1.weak (by omega) (by omega)⟩
  · rw [n_X7_wipe]
    simp only [e_X7_wipe_0, e_X7_wipe_1, e_X7_wipe_2, e_X7_wipe_3, e_X7_wipe_4, e_X7_wipe_5, e_X7_wipe_6, e_X7_wipe_7, e_X7_wipe_8, e_X7_wipe_9, O.f0, K.X.f1, Option.bind_some, e1]
    rfl
  · obtain ⟨ms, N⟩ := K.N
    exact ⟨ms, N.same s1 (by omega)⟩
theorem q_fault (K : Cr h c S) : ∃ h', xc XP (d + 14) 80 [.ref c] h = some (some (.int (aFault S)), h') ∧ Cr h' c S ∧ Same h h' c (c + 110) := by
  have O := K.O
  have c0 := O.k
  obtain ⟨lt, R, P, C, V, T⟩ := K.T
  obtain ⟨h1, e1, Z1, B1, T1, s1⟩ := q_readText O K.X K.Z K.B T (d := d + 9)
  refine ⟨h1, ?_, ⟨O.same s1 (by omega), K.X.same s1 (by omega), Z1, B1, ⟨_, _, _, _, _, T1⟩, K.M.same s1 (by omega), ?_, K.Q.same s1 (by omega)⟩, s1.weak (by omega) (by omega)⟩
  · rw [n_X7_fault]
    simp (disch := first | assumption | omega) only [e_X7_fault_0, e_X7_fault_1, e_X7_fault_2, e1, xbk_i]
    rfl
  · obtain ⟨ms, N⟩ := K.N
    exact ⟨ms, N.same s1 (by omega)⟩
theorem q_layText (K : Cr h c S) : ∃ h', xc XP (d + 13) 103 [.ref c] h = some (some (.int (aLay S).1), h') ∧ Cr h' c (aLay S).2 ∧ Same h h' c (c + 110) := by
  have O := K.O
  have c0 := O.k
  obtain ⟨lt, R, P, C, V, T⟩ := K.T
  obtain ⟨ms0, N0⟩ := K.N
  obtain ⟨h1, e1, Z1, B1, T1, s1⟩ := q_readText O K.X K.Z K.B T (d := d + 8)
  have K1 : Cr h1 c S := ⟨O.same s1 (by omega), K.X.same s1 (by omega), Z1, B1, ⟨_, _, _, _, _, T1⟩, K.M.same s1 (by omega), ⟨_, N0.same s1 (by omega)⟩, K.Q.same s1 (by omega)⟩
  have hR := rdS_v K.X.1 17 0 [] (by simp) (by intro i j hi; simp at hi) (by simp) (by omega)
  have O1 := K1.O
  unfold aLay
  rw [n_X7_layText]
  generalize hrd : rdS S.tx 17 0 [] = rd at *
  obtain ⟨fo, l'⟩ := rd
  have hl6 := allR_le l' l'.length
  have hl6 : allR l' ≤ 6 * l'.length := hl6
  have hl16 : l'.length ≤ 16 := hR.2.2
  cases fo with
  | some j =>
    refine ⟨h1, ?_, K1, s1.weak (by omega) (by omega)⟩
    have hj : ¬ nI j = -4 := by
      have hj2 : j < 2 ^ 31 := by
        have : ∀ m a l, (rdS S.tx m a l).1 = some j → j < S.tx.length := by
          intro m
          induction m with
          | zero => intro a l q; cases q
          | succ m ih =>
            intro a l q
            unfold rdS at q
            split at q
            · cases q
            · split at q
              · cases q; omega
              · split at q
                · cases q; omega
                · exact ih _ _ q
        have := this 17 0 [] (by rw [hrd])
        have := K.X.1
        omega
      exact nI_n4 hj2
    simp (disch := first | assumption | omega) only [e_X7_layText_0, e_X7_layText_1, e_X7_layText_2, e_X7_layText_3, e_X7_layText_10, e_X7_layText_11, e1, xbk_i, oI_some, hj, not_false_eq_true, if_true]
  | none =>
    have c1 := T1.L.c
    have f3 := O1.f3
    have g0 := T1.f0
    by_cases hA : allR l' ≤ 16
    · rw [if_pos hA]
      have c3 := T1.c
      obtain ⟨h2, e2, B2, s2⟩ := q_packRows T1 hR.2.1 hA (d := d + 9)
      have O2 := O1.same s2 (by omega)
      have Bb2 := K1.B.same s2 (by omega)
      have c4 := Bb2.k
      obtain ⟨h3, e3, B3, s3⟩ := Bb2.copy B2 (by omega) (d := d + 11)
      have O3 := O2.same s3 (by omega)
      have Q3 := (K1.Q.same s2 (by omega)).same s3 (by omega)
      obtain ⟨h4, e4, Q4, s4⟩ := Q3.clear
      have O4 := O3.same s4 (by omega)
      have M4 := ((K1.M.same s2 (by omega)).same s3 (by omega)).same s4 (by omega)
      obtain ⟨h5, e5, M5, s5⟩ := M4.clear
      have O5 := O4.same s5 (by omega)
      have B5 := (B3.same s4 (by omega)).same s5 (by omega)
      have hsz := B5.L.f0
      refine ⟨h5, ?_, ⟨O5, (((K1.X.same s2 (by omega)).same s3 (by omega)).same s4 (by omega)).same s5 (by omega), (((K1.Z.same s2 (by omega)).same s3 (by omega)).same s4 (by omega)).same s5 (by omega), B5, (((B2.x.same s3 (by omega)).same s4 (by omega)).same s5 (by omega)), M5, ⟨ms0, ((((N0.same s1 (by omega)).same s2 (by omega)).same s3 (by omega)).same s4 (by omega)).same s5 (by omega)⟩, Q4.same s5 (by omega)⟩, ((((s1.weak (by omega) (by omega)).trans (s2.weak (by omega) (by omega))).trans (s3.weak (by omega) (by omega))).trans (s4.weak (by omega) (by omega))).trans (s5.weak (by omega) (by omega))⟩
      simp (disch := first | assumption | omega) only [e_X7_layText_0, e_X7_layText_1, e_X7_layText_2, e_X7_layText_3, e_X7_layText_4, e_X7_layText_5, e_X7_layText_6, e_X7_layText_7, e_X7_layText_8, e_X7_layText_9, e_X7_layText_10, e_X7_layText_11, e_X7_layText_12, e_X7_layText_13, e_X7_layText_14, e_X7_layText_15, e_X7_layText_16, e_X7_layText_17, e_X7_layText_18, e_X7_layText_19, e_X7_layText_20, e_X7_layText_21, e_X7_layText_22, e_X7_layText_23, e_X7_layText_24, e_X7_layText_25, e_X7_layText_26, e_X7_layText_27, e_X7_layText_28, e_X7_layText_29, e_X7_layText_30, e_X7_layText_31, e_X7_layText_32, e1, xbk_i, xbk_v, oI_none, not_true, if_false, f3, g0, Option.bind_some, q_allRows T1.L, nI_leI, if_t, e2, O2.f2, O2.f3, e3, O3.f6, e4, O4.f4, e5, O5.f2, B5.g0, hsz]
    · rw [if_neg hA]
      refine ⟨h1, ?_, K1, s1.weak (by omega) (by omega)⟩
      simp (disch := first | assumption | omega) only [e_X7_layText_0, e_X7_layText_1, e_X7_layText_2, e_X7_layText_3, e_X7_layText_4, e_X7_layText_5, e_X7_layText_6, e_X7_layText_7, e_X7_layText_8, e_X7_layText_9, e_X7_layText_10, e_X7_layText_11, e1, xbk_i, oI_none, not_true, if_false, f3, g0, Option.bind_some, q_allRows T1.L, nI_leI, if_f]
theorem q_lay (K : Cr h c S) : ∃ h', xc XP (d + 14) 81 [.ref c] h = some (some (.int (aLay S).1), h') ∧ Cr h' c (aLay S).2 ∧ Same h h' c (c + 110) := by
  have c0 := K.O.k
  obtain ⟨h1, e1, K1, s1⟩ := q_layText K (d := d)
  refine ⟨h1, ?_, K1, s1⟩
  rw [n_X7_lay]
  simp (disch := first | assumption | omega) only [e_X7_lay_0, e_X7_lay_1, e_X7_lay_2, e1, xbk_i]
theorem tryO_neg {a b f t e x : Int32} (hh : tryO S a b f t e = .inl x) : x < nI 0 := by
  unfold tryO at hh
  split at hh
  · cases hh; decide
  · split at hh
    · cases hh; decide
    · split at hh
      · cases hh; decide
      · cases hh
theorem q_would (K : Cr h c S) (hi : S.l.length ≤ rws S.s) (a b f t : Int32) : ∃ h', xc XP (d + 14) 89 [.ref c, .int a, .int b, .int f, .int t] h = some (some (.int (aWould S a b f t)), h') ∧ Cr h' c S ∧ Same h h' c (c + 110) := by
  have c0 := K.O.k
  obtain ⟨h1, e1, K1, D1, -⟩ := q_tryRule K hi (d := d + 2) a b f t (nI 0)
  refine ⟨h1, ?_, K1, D1.same (fun i hi => hi.in)⟩
  rw [n_X7_would]
  simp (disch := first | assumption | omega) only [e_X7_would_0, e_X7_would_1, e_X7_would_2, e_X7_would_3, e_X7_would_4, e_X7_would_5, e_X7_would_6, e_X7_would_7, e1, xbk_i]
  rfl
theorem q_add (K : Cr h c S) (hi : S.l.length ≤ rws S.s) (a b f t e : Int32) : ∃ h', xc XP (d + 14) 82 [.ref c, .int a, .int b, .int f, .int t, .int e] h = some (some (.int (aAdd S a b f t e).1), h') ∧ Cr h' c (aAdd S a b f t e).2 ∧ Same h h' c (c + 110) := by
  have c0 := K.O.k
  obtain ⟨h1, e1, K1, D1, R1⟩ := q_tryRule K hi (d := d + 2) a b f t e
  have s1 : Same h h1 c (c + 110) := D1.same (fun i hi => hi.in)
  unfold aAdd
  rw [n_X7_add]
  cases ho : tryO S a b f t e with
  | inl x =>
    rw [ho] at e1
    have hx := tryO_neg ho
    refine ⟨h1, ?_, K1, s1⟩
    simp (disch := first | assumption | omega) only [e_X7_add_0, e_X7_add_1, e_X7_add_2, e_X7_add_3, e_X7_add_4, e_X7_add_5, e_X7_add_6, e_X7_add_7, e_X7_add_8, e_X7_add_9, e_X7_add_10, e_X7_add_11, e1, xbk_i, tryA, Int32.not_le.mpr hx, if_false]
  | inr y =>
    obtain ⟨q, σ, ms⟩ := y
    rw [ho] at e1
    obtain ⟨B1, L1⟩ := R1 q σ ms ho
    have hms : ms.length < 2 ^ 31 := by have := L1.1; omega
    have c1 := K1.Q.c
    obtain ⟨h2, e2, Q2, s2⟩ := q_keep K1.Q K1.B (by omega) (d := d + 11)
    have O2 := K1.O.same s2 (by omega)
    have Bb2 := K1.B.same s2 (by omega)
    have c2 := Bb2.k
    obtain ⟨h3, e3, B3, s3⟩ := Bb2.copy (B1.same s2 (by omega)) (by omega) (d := d + 12)
    have O3 := O2.same s3 (by omega)
    have M3 := (K1.M.same s2 (by omega)).same s3 (by omega)
    have N3 := (L1.same s2 (by omega)).same s3 (by omega)
    have c3 := M3.c
    obtain ⟨h4, e4, M4, s4⟩ := q_copyFromL M3 N3 (by omega) (d := d + 13)
    refine ⟨h4, ?_, ⟨O3.same s4 (by omega), ((K1.X.same s2 (by omega)).same s3 (by omega)).same s4 (by omega), ((K1.Z.same s2 (by omega)).same s3 (by omega)).same s4 (by omega), B3.same s4 (by omega), ((K1.T.same s2 (by omega)).same s3 (by omega)).same s4 (by omega), M4, ⟨ms, N3.same s4 (by omega)⟩, (Q2.same s3 (by omega)).same s4 (by omega)⟩, ((s1.trans (s2.weak (by omega) (by omega))).trans (s3.weak (by omega) (by omega))).trans (s4.weak (by omega) (by omega))⟩
    simp (disch := first | assumption | omega) only [e_X7_add_0, e_X7_add_1, e_X7_add_2, e_X7_add_3, e_X7_add_4, e_X7_add_5, e_X7_add_6, e_X7_add_7, e_X7_add_8, e_X7_add_9, e_X7_add_10, e_X7_add_11, e_X7_add_12, e_X7_add_13, e_X7_add_14, e_X7_add_15, e_X7_add_16, e_X7_add_17, e_X7_add_18, e_X7_add_19, e_X7_add_20, e_X7_add_21, e_X7_add_22, e_X7_add_23, e_X7_add_24, e_X7_add_25, e_X7_add_26, e_X7_add_27, e_X7_add_28, e1, xbk_i, xbk_v, tryA, nI_ge0, if_t, if_true, K1.O.f6, K1.O.f2, Option.bind_some, e2, O2.f2, O2.f3, e3, O3.f4, O3.f5, e4]
end ClsR
