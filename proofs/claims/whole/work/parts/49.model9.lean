/-! THE MODEL: the search of the fewest moves -/
def lnS (l : List Rl) (rec : Sl → Option (Sl × Mvs × Nat)) (σ : Sl) (i : Nat) : Option (Sl × Mvs × Nat) := if opA l σ (i / 16) (i % 16) = true then (rec (mvS σ (i / 16) (i % 16))).map (fun r => (r.1, (i / 16, i % 16) :: r.2.1, r.2.2)) else none
def srQ (l : List Rl) (w : Nat × Nat) : Nat → Sl → Option (Sl × Mvs × Nat)
  | 0, σ => (loA l σ w).map fun s => (σ, [], s)
  | k + 1, σ => fso (lnS l (srQ l w k) σ) 0 256
def NT (m i : Nat) : Prop := i = m + 1 ∨ i = m + 4 ∨ i = m + 7
theorem opA_of {l : List Rl} {σ : Sl} {f t : Nat} (h : opA l σ f t = true) : ∃ x, σ f = some x ∧ σ t = none ∧ f ≠ t := by
  unfold opA at h
  cases hx : σ f with
  | none => rw [hx] at h; cases h
  | some x =>
    rw [hx] at h
    simp only [Bool.and_eq_true] at h
    have ht : σ t = none := by
      have := h.1
      unfold emA at this
      simpa using this
    exact ⟨x, rfl, ht, fun e => by rw [e, ht] at hx; cases hx⟩
section Md5R
variable {m : Nat} {cm ca lm ra nu nr mm nm : Int32} {l : List Rl} {d : Nat} {w : Nat × Nat}
theorem pb_back {h : XH} {σ : Sl} {T : Nat → Int32} {L i : Nat} {a3 w5 w6 : Value} (hL : L < 3) (hi : i < 256) (ho : opA l σ (i / 16) (i % 16) = true) (B : Mb h m cm ca lm ra nu nr mm nm l (mvS σ (i / 16) (i % 16))) (hT : h[m + 7]? = some (ia 3 T)) (hTL : T L = nI i) :
    ∃ h', xe XP (d + 3) 146 (14, [.ref m, .int (nI w.1), .int (nI (mk l w)), a3, .int (nI L), w5, w6], [], h) = xe XP (d + 3) 146 (42, [.ref m, .int (nI w.1), .int (nI (mk l w)), a3, .int (nI L), .int (nI (i + 1)), w6], [], h') ∧ Mb h' m cm ca lm ra nu nr mm nm l σ ∧ Dif h h' (NM m) := by
  obtain ⟨x, hx, hn, hne⟩ := opA_of ho
  have M := B.1
  have c0 := M.k
  have ld : xld h (m + 7) 0 (nI L) = some (nI i) := by rw [xld_ia hT (by decide) hL, hTL]
  obtain ⟨h1, e1, B1, d1⟩ := q_movesM (d := d + 2) B (a := i % 16) (b := i / 16) (x := x) (by omega) (by omega) (Ne.symm hne) (by unfold mvS; rw [if_neg (Ne.symm hne), if_pos rfl]; exact hx)
  rw [mvS_back hne hn] at B1
  have M1 := B1.1
  have ld1 : xld h1 (m + 7) 0 (nI L) = some (nI i) := by
    have : h1[m + 7]? = some (ia 3 T) := by rw [d1.2 _ (by unfold NM; omega)]; exact hT
    rw [xld_ia this (by decide) hL, hTL]
  refine ⟨h1, ?_, B1, d1⟩
  simp (disch := first | assumption | omega) only [e_X8_placeBehind_14, e_X8_placeBehind_15, e_X8_placeBehind_16, e_X8_placeBehind_17, e_X8_placeBehind_18, e_X8_placeBehind_19, e_X8_placeBehind_20, e_X8_placeBehind_21, e_X8_placeBehind_22, e_X8_placeBehind_23, e_X8_placeBehind_24, e_X8_placeBehind_25, e_X8_placeBehind_26, e_X8_placeBehind_27, e_X8_placeBehind_28, e_X8_placeBehind_29, e_X8_placeBehind_30, e_X8_placeBehind_31, e_X8_placeBehind_32, e_X8_placeBehind_33, e_X8_placeBehind_34, e_X8_placeBehind_35, e_X8_placeBehind_36, e_X8_placeBehind_37, e_X8_placeBehind_38, e_X8_placeBehind_39, e_X8_placeBehind_40, e_X8_placeBehind_41, nI_lt0, if_f, M.f12, M1.f12, Option.bind_some, ld, ld1, jrem, jdiv, e1, xbk_v, nI_add, if_false]
theorem pb_scan (hd : dst l) (hw : w.1 < l.length) : ∀ (k L : Nat), L + k < 3 → ∀ (n i : Nat) (σ : Sl) (T : Nat → Int32) (h : XH) (w6 : Value), i + n = 256 → Mb h m cm ca lm ra nu nr mm nm l σ → h[m + 7]? = some (ia 3 T) →
    (∀ r, fso (lnS l (srQ l w k) σ) i n = some r → ∃ h' T', xe XP (d + 3) 146 (42, [.ref m, .int (nI w.1), .int (nI (mk l w)), .int (nI (L + k + 1)), .int (nI L), .int (nI i), w6], [], h) = some (some (.int (nI r.2.2)), h') ∧ Mb h' m cm ca lm ra nu nr mm nm l r.1 ∧ h'[m + 7]? = some (ia 3 T') ∧ (∀ j, j < L → T' j = T j) ∧ (∀ j x, r.2.1[j]? = some x → T' (L + j) = nI (16 * x.1 + x.2)) ∧ Dif h h' (NT m)) ∧
    (fso (lnS l (srQ l w k) σ) i n = none → ∃ h' T' w6', xe XP (d + 3) 146 (42, [.ref m, .int (nI w.1), .int (nI (mk l w)), .int (nI (L + k + 1)), .int (nI L), .int (nI i), w6], [], h) = xe XP (d + 3) 146 (14, [.ref m, .int (nI w.1), .int (nI (mk l w)), .int (nI (L + k + 1)), .int (nI L + (-1)), .int (nI 256), w6'], [], h') ∧ Mb h' m cm ca lm ra nu nr mm nm l σ ∧ h'[m + 7]? = some (ia 3 T') ∧ (∀ j, j < L → T' j = T j) ∧ Dif h h' (NT m)) := by
  have wk : ∀ {h h' : XH}, Dif h h' (NM m) → Dif h h' (NT m) := fun D => D.weak (fun i hi => by unfold NM at hi; unfold NT; omega)
  intro k
  induction k with
  | zero =>
    intro L hL n
    induction n with
    | zero =>
      intro i σ T h w6 hi B hT
      have hi : i = 256 := by omega
      subst hi
      refine ⟨fun r hr => (by cases hr), fun _ => ⟨h, T, w6, ?_, B, hT, fun _ _ => rfl, Dif.refl _ _⟩⟩
      simp (disch := first | assumption | omega) only [e_X8_placeBehind_42, e_X8_placeBehind_43, e_X8_placeBehind_44, e_X8_placeBehind_56, e_X8_placeBehind_57, e_X8_placeBehind_58, e_X8_placeBehind_59, e_X8_placeBehind_60, nI_leI, if_t, Nat.le_refl, if_true, not_true, if_false]
    | succ n ih =>
      intro i σ T h w6 hi B hT
      have M := B.1
      have c0 := M.k
      have hne256 : ¬ nI i = nI 256 := by rw [nI_eq (by omega) (by omega)]; omega
      have qm := q_mayMove (d := d) B hd (f := i / 16) (t := i % 16) (by omega) (by omega)
      rw [fso_succ]
      cases ho : opA l σ (i / 16) (i % 16) with
      | false =>
        rw [ho] at qm
        have hl : lnS l (srQ l w 0) σ i = none := by unfold lnS; rw [ho]; rfl
        obtain ⟨i1, i2⟩ := ih (i + 1) σ T h w6 (by omega) B hT
        have st : xe XP (d + 3) 146 (42, [.ref m, .int (nI w.1), .int (nI (mk l w)), .int (nI (L + 0 + 1)), .int (nI L), .int (nI i), w6], [], h) = xe XP (d + 3) 146 (42, [.ref m, .int (nI w.1), .int (nI (mk l w)), .int (nI (L + 0 + 1)), .int (nI L), .int (nI (i + 1)), w6], [], h) := by
          rw [e_X8_placeBehind_42]
          simp (disch := first | assumption | omega) only [e_X8_placeBehind_43, e_X8_placeBehind_44, e_X8_placeBehind_45, e_X8_placeBehind_46, e_X8_placeBehind_47, e_X8_placeBehind_48, e_X8_placeBehind_49, e_X8_placeBehind_50, e_X8_placeBehind_51, e_X8_placeBehind_52, e_X8_placeBehind_53, e_X8_placeBehind_54, e_X8_placeBehind_55, nI_leI, if_f, jdiv, jrem, qm, xbk_i, bI_f, not_true, if_false, nI_add]
        rw [hl, st]
        exact ⟨i1, i2⟩
      | true =>
        rw [ho] at qm
        obtain ⟨x, hx, hn, hne⟩ := opA_of ho
        obtain ⟨h1, e1, T1, s1⟩ := ia_w hT (by decide) (show L < 3 by omega) (nI i)
        have D1 : Dif h h1 (NT m) := s1.dif (fun j h1 h2 => by unfold NT; omega)
        have B1 := B.dif (s1.dif (S := fun j => j = m + 7) (fun j h1 h2 => by omega)) (by omega) (by omega) (by omega)
        have M1 := B1.1
        have c1 := M1.k
        obtain ⟨h2, e2, B2, d2⟩ := q_movesM (d := d + 2) B1 (a := i / 16) (b := i % 16) (x := x) (by omega) (by omega) hne hx
        have T2 : h2[m + 7]? = some (ia 3 (upd T L (nI i))) := by rw [d2.2 _ (by unfold NM; omega)]; exact T1
        have c2 := B2.1.k
        have qp := q_placeFor (d := d) B2 hd (y := w) hw
        have D2 := D1.trans (wk d2)
        have st : xe XP (d + 3) 146 (42, [.ref m, .int (nI w.1), .int (nI (mk l w)), .int (nI (L + 0 + 1)), .int (nI L), .int (nI i), w6], [], h) = if oI (loA l (mvS σ (i / 16) (i % 16)) w) = -4 then xe XP (d + 3) 146 (14, [.ref m, .int (nI w.1), .int (nI (mk l w)), .int (nI (L + 0 + 1)), .int (nI L), .int (nI i), .int (oI (loA l (mvS σ (i / 16) (i % 16)) w))], [], h2) else some (some (.int (oI (loA l (mvS σ (i / 16) (i % 16)) w))), h2) := by
          simp (disch := first | assumption | omega) only [e_X8_placeBehind_42, e_X8_placeBehind_43, e_X8_placeBehind_44, e_X8_placeBehind_45, e_X8_placeBehind_46, e_X8_placeBehind_47, e_X8_placeBehind_48, e_X8_placeBehind_49, e_X8_placeBehind_50, e_X8_placeBehind_51, e_X8_placeBehind_52, e_X8_placeBehind_53, e_X8_placeBehind_56, e_X8_placeBehind_57, e_X8_placeBehind_58, e_X8_placeBehind_61, e_X8_placeBehind_62, e_X8_placeBehind_63, e_X8_placeBehind_64, e_X8_placeBehind_65, e_X8_placeBehind_66, e_X8_placeBehind_67, e_X8_placeBehind_68, e_X8_placeBehind_69, e_X8_placeBehind_70, e_X8_placeBehind_71, e_X8_placeBehind_72, e_X8_placeBehind_73, e_X8_placeBehind_74, e_X8_placeBehind_75, e_X8_placeBehind_76, e_X8_placeBehind_77, e_X8_placeBehind_78, e_X8_placeBehind_86, e_X8_placeBehind_87, e_X8_placeBehind_88, e_X8_placeBehind_89, e_X8_placeBehind_90, e_X8_placeBehind_91, e_X8_placeBehind_92, e_X8_placeBehind_93, e_X8_placeBehind_94, e_X8_placeBehind_95, e_X8_placeBehind_96, nI_leI, if_f, if_t, jdiv, jrem, qm, xbk_i, xbk_v, bI_0, Bool.true_eq_false, not_false_eq_true, if_true, hne256, M.f12, Option.bind_some, e1, e2, nI_add, Nat.add_zero, Nat.le_refl, qp]
        rw [st]
        cases hp : loA l (mvS σ (i / 16) (i % 16)) w with
        | some s =>
          have hs : s < 2 ^ 31 := by
            have a1 := (fup_some.mp hp).1
            have a2 := (fup_some.mp hp).2.1
            have a3 := ceA_le l (mvS σ (i / 16) (i % 16)) w
            omega
          have hl : lnS l (srQ l w 0) σ i = some (mvS σ (i / 16) (i % 16), [(i / 16, i % 16)], s) := by unfold lnS srQ; rw [ho, hp]; rfl
          rw [hl]
          refine ⟨fun r hr => ?_, fun hr => (by cases hr)⟩
          cases hr
          refine ⟨h2, _, ?_, B2, T2, fun j hj => upd_n (by omega), fun j y hy => ?_, D2⟩
          · rw [oI_some, if_neg (nI_n4 hs)]
          · cases j with
            | zero => simp at hy; subst hy; rw [Nat.add_zero, upd_s]; congr 1; dsimp only; omega
            | succ j => simp at hy
        | none =>
          have hl : lnS l (srQ l w 0) σ i = none := by unfold lnS srQ; rw [ho, hp]; rfl
          obtain ⟨h3, e3, B3, d3⟩ := pb_back (d := d) (w := w) (a3 := .int (nI (L + 0 + 1))) (w5 := .int (nI i)) (w6 := .int (-4)) (show L < 3 by omega) (by omega) ho B2 T2 upd_s
          have T3 : h3[m + 7]? = some (ia 3 (upd T L (nI i))) := by rw [d3.2 _ (by unfold NM; omega)]; exact T2
          have D3 := D2.trans (wk d3)
          obtain ⟨i1, i2⟩ := ih (i + 1) σ _ h3 (.int (-4)) (by omega) B3 T3
          rw [hl, oI_none, if_pos rfl, e3]
          refine ⟨fun r hr => ?_, fun hr => ?_⟩
          · obtain ⟨h4, T4, e4, B4, g4, p4, q4, d4⟩ := i1 r hr
            exact ⟨h4, T4, e4, B4, g4, fun j hj => by rw [p4 j hj, upd_n (by omega)], q4, D3.trans d4⟩
          · obtain ⟨h4, T4, w4, e4, B4, g4, p4, d4⟩ := i2 hr
            exact ⟨h4, T4, w4, e4, B4, g4, fun j hj => by rw [p4 j hj, upd_n (by omega)], D3.trans d4⟩
  | succ k ihk =>
    intro L hL n
    induction n with
    | zero =>
      intro i σ T h w6 hi B hT
      have hi : i = 256 := by omega
      subst hi
      refine ⟨fun r hr => (by cases hr), fun _ => ⟨h, T, w6, ?_, B, hT, fun _ _ => rfl, Dif.refl _ _⟩⟩
      simp (disch := first | assumption | omega) only [e_X8_placeBehind_42, e_X8_placeBehind_43, e_X8_placeBehind_44, e_X8_placeBehind_56, e_X8_placeBehind_57, e_X8_placeBehind_58, e_X8_placeBehind_59, e_X8_placeBehind_60, nI_leI, if_t, Nat.le_refl, if_true, not_true, if_false]
    | succ n ih =>
      intro i σ T h w6 hi B hT
      have M := B.1
      have c0 := M.k
      have hne256 : ¬ nI i = nI 256 := by rw [nI_eq (by omega) (by omega)]; omega
      have qm := q_mayMove (d := d) B hd (f := i / 16) (t := i % 16) (by omega) (by omega)
      rw [fso_succ]
      cases ho : opA l σ (i / 16) (i % 16) with
      | false =>
        rw [ho] at qm
        have hl : lnS l (srQ l w (k + 1)) σ i = none := by unfold lnS; rw [ho]; rfl
        obtain ⟨i1, i2⟩ := ih (i + 1) σ T h w6 (by omega) B hT
        have st : xe XP (d + 3) 146 (42, [.ref m, .int (nI w.1), .int (nI (mk l w)), .int (nI (L + (k + 1) + 1)), .int (nI L), .int (nI i), w6], [], h) = xe XP (d + 3) 146 (42, [.ref m, .int (nI w.1), .int (nI (mk l w)), .int (nI (L + (k + 1) + 1)), .int (nI L), .int (nI (i + 1)), w6], [], h) := by
          rw [e_X8_placeBehind_42]
          simp (disch := first | assumption | omega) only [e_X8_placeBehind_43, e_X8_placeBehind_44, e_X8_placeBehind_45, e_X8_placeBehind_46, e_X8_placeBehind_47, e_X8_placeBehind_48, e_X8_placeBehind_49, e_X8_placeBehind_50, e_X8_placeBehind_51, e_X8_placeBehind_52, e_X8_placeBehind_53, e_X8_placeBehind_54, e_X8_placeBehind_55, nI_leI, if_f, jdiv, jrem, qm, xbk_i, bI_f, not_true, if_false, nI_add]
        rw [hl, st]
        exact ⟨i1, i2⟩
      | true =>
        rw [ho] at qm
        obtain ⟨x, hx, hn, hne⟩ := opA_of ho
        obtain ⟨h1, e1, T1, s1⟩ := ia_w hT (by decide) (show L < 3 by omega) (nI i)
        have D1 : Dif h h1 (NT m) := s1.dif (fun j h1 h2 => by unfold NT; omega)
        have B1 := B.dif (s1.dif (S := fun j => j = m + 7) (fun j h1 h2 => by omega)) (by omega) (by omega) (by omega)
        have c1 := B1.1.k
        obtain ⟨h2, e2, B2, d2⟩ := q_movesM (d := d + 2) B1 (a := i / 16) (b := i % 16) (x := x) (by omega) (by omega) hne hx
        have T2 : h2[m + 7]? = some (ia 3 (upd T L (nI i))) := by rw [d2.2 _ (by unfold NM; omega)]; exact T1
        have M2 := B2.1
        obtain ⟨h3, e3, T3, s3⟩ := ia_w T2 (by decide) (show L + 1 < 3 by omega) (-1)
        have B3 := B2.dif (s3.dif (S := fun j => j = m + 7) (fun j h1 h2 => by omega)) (by omega) (by omega) (by omega)
        have M3 := B3.1
        have D3 : Dif h h3 (NT m) := (D1.trans (wk d2)).trans (s3.dif (fun j h1 h2 => by unfold NT; omega))
        have ld : xld h3 (m + 7) 0 (nI (L + 1)) = some (-1) := by rw [xld_ia T3 (by decide) (by omega), upd_s]
        have st : xe XP (d + 3) 146 (42, [.ref m, .int (nI w.1), .int (nI (mk l w)), .int (nI (L + (k + 1) + 1)), .int (nI L), .int (nI i), w6], [], h) = xe XP (d + 3) 146 (42, [.ref m, .int (nI w.1), .int (nI (mk l w)), .int (nI (L + 1 + k + 1)), .int (nI (L + 1)), .int (nI 0), w6], [], h3) := by
          rw [e_X8_placeBehind_42]
          simp (disch := first | assumption | omega) only [e_X8_placeBehind_14, e_X8_placeBehind_15, e_X8_placeBehind_16, e_X8_placeBehind_17, e_X8_placeBehind_18, e_X8_placeBehind_19, e_X8_placeBehind_20, e_X8_placeBehind_35, e_X8_placeBehind_36, e_X8_placeBehind_37, e_X8_placeBehind_38, e_X8_placeBehind_39, e_X8_placeBehind_40, e_X8_placeBehind_41, e_X8_placeBehind_43, e_X8_placeBehind_44, e_X8_placeBehind_45, e_X8_placeBehind_46, e_X8_placeBehind_47, e_X8_placeBehind_48, e_X8_placeBehind_49, e_X8_placeBehind_50, e_X8_placeBehind_51, e_X8_placeBehind_52, e_X8_placeBehind_53, e_X8_placeBehind_56, e_X8_placeBehind_57, e_X8_placeBehind_58, e_X8_placeBehind_61, e_X8_placeBehind_62, e_X8_placeBehind_63, e_X8_placeBehind_64, e_X8_placeBehind_65, e_X8_placeBehind_66, e_X8_placeBehind_67, e_X8_placeBehind_68, e_X8_placeBehind_69, e_X8_placeBehind_70, e_X8_placeBehind_71, e_X8_placeBehind_72, e_X8_placeBehind_73, e_X8_placeBehind_74, e_X8_placeBehind_75, e_X8_placeBehind_76, e_X8_placeBehind_77, e_X8_placeBehind_78, e_X8_placeBehind_79, e_X8_placeBehind_80, e_X8_placeBehind_81, e_X8_placeBehind_82, e_X8_placeBehind_83, e_X8_placeBehind_84, e_X8_placeBehind_85, e_X8_placeBehind_96, nI_leI, if_f, jdiv, jrem, qm, xbk_i, xbk_v, bI_0, Bool.true_eq_false, not_false_eq_true, if_true, hne256, M.f12, M2.f12, M3.f12, Option.bind_some, e1, e2, e3, nI_add, nI_lt0, ld, m1_lt0, if_false, show (-1 : Int32) + nI 1 = nI 0 by decide]
          rw [show L + (k + 1) + 1 = L + 1 + k + 1 by omega]
        obtain ⟨j1, j2⟩ := ihk (L + 1) (by omega) 256 0 (mvS σ (i / 16) (i % 16)) _ h3 w6 (by omega) B3 T3
        rw [st]
        cases hq : fso (lnS l (srQ l w k) (mvS σ (i / 16) (i % 16))) 0 256 with
        | some y =>
          have hl : lnS l (srQ l w (k + 1)) σ i = some (y.1, (i / 16, i % 16) :: y.2.1, y.2.2) := by
            unfold lnS
            rw [ho]
            show (if true = true then (fso (lnS l (srQ l w k) (mvS σ (i / 16) (i % 16))) 0 256).map _ else none) = _
            rw [hq]; rfl
          rw [hl]
          refine ⟨fun r hr => ?_, fun hr => (by cases hr)⟩
          cases hr
          obtain ⟨h4, T4, e4, B4, g4, p4, q4, d4⟩ := j1 y hq
          refine ⟨h4, T4, e4, B4, g4, fun j hj => by rw [p4 j (by omega), upd_n (by omega), upd_n (by omega)], fun j z hz => ?_, D3.trans d4⟩
          cases j with
          | zero =>
            simp at hz
            subst hz
            rw [Nat.add_zero, p4 L (by omega), upd_n (by omega), upd_s]
            congr 1
            dsimp only
            omega
          | succ j =>
            simp at hz
            have := q4 j z hz
            rw [show L + 1 + j = L + (j + 1) by omega] at this
            exact this
        | none =>
          have hl : lnS l (srQ l w (k + 1)) σ i = none := by
            unfold lnS
            rw [ho]
            show (if true = true then (fso (lnS l (srQ l w k) (mvS σ (i / 16) (i % 16))) 0 256).map _ else none) = _
            rw [hq]; rfl
          obtain ⟨h4, T4, w4, e4, B4, g4, p4, d4⟩ := j2 hq
          rw [pk_m1] at e4
          have hTL : T4 L = nI i := by rw [p4 L (by omega), upd_n (by omega), upd_s]
          obtain ⟨h5, e5, B5, d5⟩ := pb_back (d := d) (w := w) (a3 := .int (nI (L + 1 + k + 1))) (w5 := .int (nI 256)) (w6 := w4) (show L < 3 by omega) (by omega) ho B4 g4 hTL
          have T5 : h5[m + 7]? = some (ia 3 T4) := by rw [d5.2 _ (by unfold NM; omega)]; exact g4
          have D5 := (D3.trans d4).trans (wk d5)
          obtain ⟨i1, i2⟩ := ih (i + 1) σ T4 h5 w4 (by omega) B5 T5
          rw [show L + (k + 1) + 1 = L + 1 + k + 1 by omega] at i1 i2 ⊢
          rw [hl, e4, e5]
          have hp : ∀ j, j < L → T4 j = T j := fun j hj => by rw [p4 j (by omega), upd_n (by omega), upd_n (by omega)]
          refine ⟨fun r hr => ?_, fun hr => ?_⟩
          · obtain ⟨h6, T6, e6, B6, g6, p6, q6, d6⟩ := i1 r hr
            exact ⟨h6, T6, e6, B6, g6, fun j hj => by rw [p6 j hj, hp j hj], q6, D5.trans d6⟩
          · obtain ⟨h6, T6, w6', e6, B6, g6, p6, d6⟩ := i2 hr
            exact ⟨h6, T6, w6', e6, B6, g6, fun j hj => by rw [p6 j hj, hp j hj], D5.trans d6⟩
end Md5R
