/-! READING the text -/
def rdS (tx : List Nat) : Nat → Nat → List Rl → Option Nat × List Rl
  | 0, _, l => (none, l)
  | m + 1, a, l => if tx.length ≤ a then (none, l) else match rulS tx a with
    | none => (some a, l)
    | some (q, n) => if (nofR l q.1).isSome = true then (some a, l) else rdS tx m n (l ++ [q])
theorem nofR_none {l : List Rl} {k : Nat} (h : nofR l k = none) : ∀ j, j < l.length → ¬ (rlN l j).1 = k := by
  intro j hj
  have := fup_none.mp h j (by omega) (by omega)
  simpa using this
theorem rlN_app {l : List Rl} {q : Rl} {j : Nat} (hj : j < l.length) : rlN (l ++ [q]) j = rlN l j := by
  unfold rlN
  simp [List.getD_eq_getElem?_getD, List.getElem?_append_left hj]
theorem rlN_last {l : List Rl} {q : Rl} : rlN (l ++ [q]) l.length = q := by
  unfold rlN
  simp [List.getD_eq_getElem?_getD]
theorem dst_app {l : List Rl} {q : Rl} (hd : dst l) (hn : nofR l q.1 = none) : dst (l ++ [q]) := by
  intro i j hi hj he
  simp only [List.length_append, List.length_singleton] at hi hj
  have hN := nofR_none hn
  by_cases h1 : i < l.length
  · by_cases h2 : j < l.length
    · rw [rlN_app h1, rlN_app h2] at he; exact hd i j h1 h2 he
    · have : j = l.length := by omega
      subst this
      rw [rlN_app h1, rlN_last] at he
      exact absurd he (hN i h1)
  · have : i = l.length := by omega
    subst this
    by_cases h2 : j < l.length
    · rw [rlN_app h2, rlN_last] at he
      exact absurd he.symm (hN j h2)
    · omega
theorem rdS_v {tx : List Nat} (ht : tx.length ≤ 200) : ∀ m a l, (∀ q ∈ l, vr q) → dst l → 12 * l.length ≤ a → a ≤ tx.length → (∀ q ∈ (rdS tx m a l).2, vr q) ∧ dst (rdS tx m a l).2 ∧ (rdS tx m a l).2.length ≤ 16
  | 0, _, l, hv, hd, h1, h2 => ⟨hv, hd, by simp only [rdS]; omega⟩
  | m + 1, a, l, hv, hd, h1, h2 => by
    unfold rdS
    split
    · exact ⟨hv, hd, by simp only []; omega⟩
    · split
      · exact ⟨hv, hd, by simp only []; omega⟩
      · next q n hq =>
        have hr := rulS_of hq
        split
        · exact ⟨hv, hd, by simp only []; omega⟩
        · next hN =>
          refine rdS_v ht m n (l ++ [q]) ?_ (dst_app hd (by simpa using hN)) (by simp; omega) hr.2.2
          intro y hy
          rcases List.mem_append.mp hy with hy | hy
          · exact hv y hy
          · rw [List.mem_singleton.mp hy]; exact hr.1
/-- the object itself -/
def CrO (h : XH) (c : Nat) : Prop := h[c]? = some (.inl (7, [.ref (c + 1), .ref (c + 3), .ref (c + 4), .ref (c + 18), .ref (c + 32), .ref (c + 35), .ref (c + 38)]))
section CrR
variable {h : XH} {c : Nat} {tx : List Nat}
theorem CrO.k (O : CrO h c) : xcls h (.ref c) = some 7 := xcls_o O
theorem CrO.f0 (O : CrO h c) : xgf h c 7 0 = some (.ref (c + 1)) := xgf_o O 0
theorem CrO.f1 (O : CrO h c) : xgf h c 7 1 = some (.ref (c + 3)) := xgf_o O 1
theorem CrO.f2 (O : CrO h c) : xgf h c 7 2 = some (.ref (c + 4)) := xgf_o O 2
theorem CrO.f3 (O : CrO h c) : xgf h c 7 3 = some (.ref (c + 18)) := xgf_o O 3
theorem CrO.f4 (O : CrO h c) : xgf h c 7 4 = some (.ref (c + 32)) := xgf_o O 4
theorem CrO.f5 (O : CrO h c) : xgf h c 7 5 = some (.ref (c + 35)) := xgf_o O 5
theorem CrO.f6 (O : CrO h c) : xgf h c 7 6 = some (.ref (c + 38)) := xgf_o O 6
theorem CrO.same {h' : XH} (O : CrO h c) {lo hi : Nat} (s : Same h h' lo hi) (hd : c + 1 ≤ lo ∨ hi ≤ c) : CrO h' c := by
  unfold CrO; rw [s.2 _ (by omega)]; exact O
theorem Rdx.same {h' : XH} {z : Nat} (O : Rdx h z) {lo hi : Nat} (s : Same h h' lo hi) (hd : z + 1 ≤ lo ∨ hi ≤ z) : Rdx h' z := by
  obtain ⟨v0, v1, v2, v3, v4, v5, T⟩ := O
  exact ⟨v0, v1, v2, v3, v4, v5, by unfold Rdr; rw [s.2 _ (by omega)]; exact T⟩
theorem Lst.clear {r : Nat} {l : List Rl} (L : Lst h r l) : ∃ h', xpf h r 3 0 (.int (nI 0)) = some h' ∧ Lst h' r [] ∧ Same h h' r (r + 8) := by
  obtain ⟨K, H, Hc, Hv, F, La, A, T, -⟩ := L.cells
  exact ⟨_, T.s0 _, (T.w0 0).lst (l := []) (by simp) (by simp) (fun j hj => absurd hj (by simp)), (Same.refl _ _ _).set (by omega) (by omega) _⟩
theorem readText_loop {lb : List Rl} {σ : Sl} {d : Nat} : ∀ (m n a : Nat) (l : List Rl) (R P C V : Nat → Int32) (h : XH), n + m = 17 → 12 * l.length ≤ a → a ≤ tx.length → l.length ≤ n → (∀ q ∈ l, vr q) →
    CrO h c → Txt h (c + 1) tx → Rdx h (c + 3) → Brd h (c + 4) lb σ → Bd h (c + 18) l R P C V →
    ∃ h', xe XP (d + 4) 102 (11, [.ref c, .ref (c + 19), .int (nI a), .int (nI n)], [], h) = some (some (.int (oI (rdS tx m a l).1)), h') ∧ Rdx h' (c + 3) ∧ Brd h' (c + 4) lb σ ∧ Bd h' (c + 18) (rdS tx m a l).2 R P C V ∧ Same h h' (c + 3) (c + 27) := by
  intro m
  induction m with
  | zero =>
    intro n a l R P C V h hnm ha1 ha2 hln hv O X Z B T
    refine ⟨h, ?_, Z, B, T, Same.refl _ _ _⟩
    simp (disch := first | assumption | omega) only [e_X7_readText_11, e_X7_readText_12, e_X7_readText_13, e_X7_readText_61, e_X7_readText_62, nI_ltI, if_t]
    rfl
  | succ m ih =>
    intro n a l R P C V h hnm ha1 ha2 hln hv O X Z B T
    have hX := X.1
    have c0 := O.k
    have c1 := T.c
    have c2 := T.L.c
    have c3 : xcls h (.ref (c + 3)) = some 4 := by obtain ⟨v0, v1, v2, v3, v4, v5, T⟩ := Z; exact T.c
    unfold rdS
    by_cases hl : tx.length ≤ a
    · refine ⟨h, ?_, Z, B, by rw [if_pos hl]; exact T, Same.refl _ _ _⟩
      rw [if_pos hl]
      simp (disch := first | assumption | omega) only [e_X7_readText_11, e_X7_readText_12, e_X7_readText_13, e_X7_readText_14, e_X7_readText_15, e_X7_readText_16, e_X7_readText_17, e_X7_readText_18, e_X7_readText_61, e_X7_readText_62, nI_ltI, nI_leI, if_t, if_f, O.f0, X.f1, Option.bind_some]
      rfl
    · rw [if_neg hl]
      obtain ⟨h1, e1, g1⟩ := q_reads (d := d) (i := a) Z X (by omega) (by omega)
      have s1 := g1.1
      have O1 := O.same s1 (by omega)
      have X1 := X.same s1 (by omega)
      have B1 := B.same s1 (by omega)
      have T1 := T.same s1 (by omega)
      have c1' := T1.L.c
      cases hq : rulS tx a with
      | none =>
        rw [hq] at e1
        refine ⟨h1, ?_, g1.2.1, B1, T1, s1.weak (by omega) (by omega)⟩
        simp (disch := first | assumption | omega) only [e_X7_readText_11, e_X7_readText_12, e_X7_readText_13, e_X7_readText_14, e_X7_readText_15, e_X7_readText_16, e_X7_readText_17, e_X7_readText_18, e_X7_readText_19, e_X7_readText_20, e_X7_readText_21, e_X7_readText_22, e_X7_readText_23, e_X7_readText_24, e_X7_readText_25, e_X7_readText_26, e_X7_readText_27, e_X7_readText_28, e_X7_readText_29, e_X7_readText_30, e_X7_readText_31, e_X7_readText_32, e_X7_readText_33, e_X7_readText_34, e_X7_readText_35, e_X7_readText_36, e_X7_readText_37, nI_ltI, nI_leI, if_f, if_t, O.f0, O.f1, X.f1, Option.bind_some, e1, xbk_i, Option.isSome_none, bI_0]
        rfl
      | some p =>
        obtain ⟨q, nx⟩ := p
        rw [hq] at e1 g1
        have hr := rulS_of hq
        have Z1 := g1.2.2 q nx rfl
        have hq1 := hr.1.1
        cases hN : nofR l q.1 with
        | some j =>
          have hj := nofR_some hN
          refine ⟨h1, ?_, g1.2.1, B1, by simpa [hN] using T1, s1.weak (by omega) (by omega)⟩
          simp (disch := first | assumption | omega) only [e_X7_readText_11, e_X7_readText_12, e_X7_readText_13, e_X7_readText_14, e_X7_readText_15, e_X7_readText_16, e_X7_readText_17, e_X7_readText_18, e_X7_readText_19, e_X7_readText_20, e_X7_readText_21, e_X7_readText_22, e_X7_readText_23, e_X7_readText_24, e_X7_readText_25, e_X7_readText_26, e_X7_readText_27, e_X7_readText_28, e_X7_readText_29, e_X7_readText_30, e_X7_readText_31, e_X7_readText_32, e_X7_readText_33, e_X7_readText_34, e_X7_readText_35, e_X7_readText_36, e_X7_readText_37, nI_ltI, nI_leI, if_f, O.f0, O.f1, X.f1, Option.bind_some, e1, xbk_i, Option.isSome_some, bI_0, Bool.true_eq_false, if_false, O1.f1, Z1.f1, q_numberOf T1.L, hN, oI_some, nI_ge0, if_t, if_true]
        | none =>
          obtain ⟨h2, e2, L2, s2⟩ := q_appendR T1.L (d := d + 2) hr.1 (by omega)
          have O2 := O1.same s2 (by omega)
          have X2 := X1.same s2 (by omega)
          have B2 := B1.same s2 (by omega)
          have T2 := T1.setL L2 (s2.weak (by omega) (by omega))
          have Z2 : Rdr h2 (c + 3) (nI nx) (nI q.1) (nI q.2.1) (nI q.2.2.1) (nI q.2.2.2.1) (nI q.2.2.2.2) := by unfold Rdr; rw [s2.2 _ (by omega)]; exact Z1
          obtain ⟨h3, e3, Z3, B3, T3, s3⟩ := ih (n + 1) nx (l ++ [q]) R P C V h2 (by omega) (by simp; omega) hr.2.2 (by simp; omega) (by
            intro y hy
            rcases List.mem_append.mp hy with hy | hy
            · exact hv y hy
            · rw [List.mem_singleton.mp hy]; exact hr.1) O2 X2 Z2.x B2 T2
          refine ⟨h3, ?_, Z3, B3, by simpa [hN] using T3, ((s1.weak (by omega) (by omega)).trans (s2.weak (by omega) (by omega))).trans s3⟩
          rw [e_X7_readText_11]
          simp (disch := first | assumption | omega) only [e_X7_readText_12, e_X7_readText_13, e_X7_readText_14, e_X7_readText_15, e_X7_readText_16, e_X7_readText_17, e_X7_readText_18, e_X7_readText_19, e_X7_readText_20, e_X7_readText_21, e_X7_readText_22, e_X7_readText_23, e_X7_readText_24, e_X7_readText_25, e_X7_readText_26, e_X7_readText_27, e_X7_readText_28, e_X7_readText_29, e_X7_readText_30, e_X7_readText_31, e_X7_readText_32, e_X7_readText_33, e_X7_readText_34, e_X7_readText_35, e_X7_readText_36, e_X7_readText_37, e_X7_readText_38, e_X7_readText_39, e_X7_readText_40, e_X7_readText_41, e_X7_readText_42, e_X7_readText_43, e_X7_readText_44, e_X7_readText_45, e_X7_readText_46, e_X7_readText_47, e_X7_readText_48, e_X7_readText_49, e_X7_readText_50, e_X7_readText_51, e_X7_readText_52, e_X7_readText_53, e_X7_readText_54, e_X7_readText_55, e_X7_readText_56, e_X7_readText_57, e_X7_readText_58, e_X7_readText_59, e_X7_readText_60, nI_ltI, nI_leI, if_f, O.f0, O.f1, X.f1, Option.bind_some, e1, xbk_i, xbk_v, Option.isSome_some, bI_0, Bool.true_eq_false, if_false, O1.f1, Z1.f1, Z1.f2, Z1.f3, Z1.f4, Z1.f5, q_numberOf T1.L, hN, oI_none, m4_ge0, T1.L.f0, if_t, e2, O2.f1, Z2.f0, nI_add, Option.isSome_none, Bool.false_eq_true, e3]
theorem q_readText {lb lt : List Rl} {σ : Sl} {R P C V : Nat → Int32} (O : CrO h c) (X : Txt h (c + 1) tx) (Z : Rdx h (c + 3)) (B : Brd h (c + 4) lb σ) (T : Bd h (c + 18) lt R P C V) {d : Nat} :
    ∃ h', xc XP (d + 4) 102 [.ref c] h = some (some (.int (oI (rdS tx 17 0 []).1)), h') ∧ Rdx h' (c + 3) ∧ Brd h' (c + 4) lb σ ∧ Bd h' (c + 18) (rdS tx 17 0 []).2 R P C V ∧ Same h h' (c + 3) (c + 27) := by
  obtain ⟨h1, e1, L1, s1⟩ := T.L.clear
  have T1 := T.setL L1 (s1.weak (by omega) (by omega))
  obtain ⟨h2, e2, Z2, B2, T2, s2⟩ := readText_loop (d := d) 17 0 0 [] R P C V h1 (by omega) (by simp) (by omega) (by simp) (by simp) (O.same s1 (by omega)) (X.same s1 (by omega)) (Z.same s1 (by omega)) (B.same s1 (by omega)) T1
  refine ⟨h2, ?_, Z2, B2, T2, (s1.weak (by omega) (by omega)).trans s2⟩
  rw [n_X7_readText]
  simp (disch := first | assumption | omega) only [e_X7_readText_0, e_X7_readText_1, e_X7_readText_2, e_X7_readText_3, e_X7_readText_4, e_X7_readText_5, e_X7_readText_6, e_X7_readText_7, e_X7_readText_8, e_X7_readText_9, e_X7_readText_10, O.f3, T.f0, Option.bind_some, e1, e2]
end CrR
