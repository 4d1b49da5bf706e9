/-! THE MODEL's search is the class's -/
theorem fso_map {α β : Type} {f : Nat → Option α} (F : α → β) : ∀ {n i : Nat}, (fso f i n).map F = fso (fun j => (f j).map F) i n
  | 0, i => rfl
  | n + 1, i => by
    rw [fso_succ, fso_succ]
    cases f i with
    | some a => rfl
    | none => exact fso_map F
theorem fso_shift {α : Type} {g : Nat → Option α} (s : Nat) : ∀ {n i : Nat}, fso g (s + i) n = fso (fun b => g (s + b)) i n
  | 0, i => rfl
  | n + 1, i => by
    rw [fso_succ, fso_succ]
    cases g (s + i) with
    | some a => rfl
    | none => exact fso_shift s (i := i + 1)
theorem fso_16 {α : Type} {g : Nat → Option α} : ∀ {n i : Nat}, fso g (16 * i) (16 * n) = fso (fun a => fso (fun b => g (16 * a + b)) 0 16) i n
  | 0, i => rfl
  | n + 1, i => by
    have e1 : fso (fun b => g (16 * i + b)) 0 16 = fso g (16 * i) 16 := by rw [← fso_shift (g := g) (16 * i) (i := 0), Nat.add_zero]
    rw [show 16 * (n + 1) = 16 + 16 * n by omega, fso_app, fso_succ (f := fun a => fso (fun b => g (16 * a + b)) 0 16), e1]
    cases fso g (16 * i) 16 with
    | some a => rfl
    | none =>
      simp only
      rw [show 16 * i + 16 = 16 * (i + 1) by omega]
      exact fso_16
theorem srch_srQ {l : List Rl} {w : Nat × Nat} : ∀ (k : Nat) (σ : Sl), srch l w k σ = (srQ l w k σ).map fun r => (ptS r.1 r.2.2 w, r.2.1) := by
  intro k
  induction k with
  | zero =>
    intro σ
    unfold srch srQ
    cases loA l σ w <;> rfl
  | succ k ih =>
    intro σ
    show fso (srF l σ (srch l w k)) 0 16 = (fso (lnS l (srQ l w k) σ) 0 256).map _
    rw [fso_map, show (256 : Nat) = 16 * 16 by decide, show (0 : Nat) = 16 * 0 by decide, fso_16]
    refine fso_congr (fun a _ ha => ?_)
    unfold srF
    cases hx : σ a with
    | none =>
      refine (fso_none.mpr (fun b _ hb => ?_)).symm
      unfold lnS
      rw [show (16 * a + b) / 16 = a by omega, show (16 * a + b) % 16 = b by omega]
      unfold opA
      rw [hx]
      rfl
    | some x =>
      have h1 := flA_le l σ x
      have h2 := ceA_le l σ x
      simp only
      have ho : ∀ b, b < 16 → (lnS l (srQ l w k) σ (16 * a + b)).map (fun r => (ptS r.1 r.2.2 w, r.2.1)) = if (emA σ b && (decide (flA l σ x ≤ b) && decide (b < ceA l σ x))) = true then (srch l w k (mvS σ a b)).map (fun r => (r.1, (a, b) :: r.2)) else none := by
        intro b hb
        unfold lnS
        rw [show (16 * a + b) / 16 = a by omega, show (16 * a + b) % 16 = b by omega]
        unfold opA
        rw [hx]
        simp only
        rw [ih]
        split
        · cases srQ l w k (mvS σ a b) <;> rfl
        · rfl
      rw [show fso (fun b => (lnS l (srQ l w k) σ (16 * a + b)).map (fun r => (ptS r.1 r.2.2 w, r.2.1))) 0 16 = fso (fun b => if (emA σ b && (decide (flA l σ x ≤ b) && decide (b < ceA l σ x))) = true then (srch l w k (mvS σ a b)).map (fun r => (r.1, (a, b) :: r.2)) else none) 0 16 from fso_congr (fun b _ hb => ho b (by omega))]
      rw [fso_cut (lo := flA l σ x) (n := ceA l σ x - flA l σ x) (by omega) (fun j hj => by rw [decide_eq_false (show ¬ flA l σ x ≤ j by omega)]; simp) (fun j hj hj2 => by rw [decide_eq_false (show ¬ j < ceA l σ x by omega)]; simp)]
      refine fso_congr (fun b hb1 hb2 => ?_)
      unfold srM emA
      rw [decide_eq_true hb1, decide_eq_true (show b < ceA l σ x by omega)]
      cases σ b <;> rfl
section Md6R
variable {h : XH} {m : Nat} {cm ca lm ra nu nr mm nm : Int32} {l : List Rl} {σ : Sl} {d : Nat} {w : Nat × Nat}
def PbR (h : XH) (m : Nat) (cm ca lm ra nu nr mm nm : Int32) (l : List Rl) (σ : Sl) (T : Nat → Int32) (o : Option (Sl × Mvs × Nat)) : Prop := match o with
  | some r => Mb h m cm ca lm ra nu nr mm nm l r.1 ∧ ∀ j x, r.2.1[j]? = some x → T j = nI (16 * x.1 + x.2)
  | none => Mb h m cm ca lm ra nu nr mm nm l σ
theorem q_placeBehind (hd : dst l) (hw : w.1 < l.length) (B : Mb h m cm ca lm ra nu nr mm nm l σ) {T : Nat → Int32} (hT : h[m + 7]? = some (ia 3 T)) {k : Nat} (hk : k ≤ 3) : ∃ h' T', xc XP (d + 3) 146 [.ref m, .int (nI w.1), .int (nI (mk l w)), .int (nI k)] h = some (some (.int (oI ((srQ l w k σ).map fun r => r.2.2))), h') ∧ h'[m + 7]? = some (ia 3 T') ∧ Dif h h' (NT m) ∧ PbR h' m cm ca lm ra nu nr mm nm l σ T' (srQ l w k σ) := by
  have M := B.1
  have c0 := M.k
  rw [n_X8_placeBehind]
  cases k with
  | zero =>
    have qp := q_placeFor (d := d) B hd (y := w) hw
    refine ⟨h, T, ?_, hT, Dif.refl _ _, ?_⟩
    · simp (disch := first | assumption | omega) only [e_X8_placeBehind_0, e_X8_placeBehind_1, e_X8_placeBehind_2, e_X8_placeBehind_3, e_X8_placeBehind_4, e_X8_placeBehind_5, e_X8_placeBehind_6, not_true, if_false, qp, xbk_i]
      unfold srQ
      cases loA l σ w <;> rfl
    · unfold srQ
      cases loA l σ w with
      | none => exact B
      | some s => exact ⟨B, fun j x hx => by simp at hx⟩
  | succ k =>
    obtain ⟨h1, e1, T1, s1⟩ := ia_w hT (by decide) (show 0 < 3 by decide) (-1)
    have D1 : Dif h h1 (NT m) := s1.dif (fun j h1 h2 => by unfold NT; omega)
    have B1 := B.dif (s1.dif (S := fun j => j = m + 7) (fun j h1 h2 => by omega)) (by omega) (by omega) (by omega)
    have M1 := B1.1
    have ld : xld h1 (m + 7) 0 (nI 0) = some (-1) := by rw [xld_ia T1 (by decide) (by decide), upd_s]
    have hk0 : ¬ nI (k + 1) = nI 0 := by rw [nI_eq (by omega) (by omega)]; omega
    have st : xe XP (d + 3) 146 (0, [.ref m, .int (nI w.1), .int (nI (mk l w)), .int (nI (k + 1)), .null, .null, .null], [], h) = xe XP (d + 3) 146 (42, [.ref m, .int (nI w.1), .int (nI (mk l w)), .int (nI (0 + k + 1)), .int (nI 0), .int (nI 0), .null], [], h1) := by
      simp (disch := first | assumption | omega) only [e_X8_placeBehind_0, e_X8_placeBehind_1, e_X8_placeBehind_7, e_X8_placeBehind_8, e_X8_placeBehind_9, e_X8_placeBehind_10, e_X8_placeBehind_11, e_X8_placeBehind_12, e_X8_placeBehind_13, e_X8_placeBehind_14, e_X8_placeBehind_15, e_X8_placeBehind_16, e_X8_placeBehind_17, e_X8_placeBehind_18, e_X8_placeBehind_19, e_X8_placeBehind_20, e_X8_placeBehind_35, e_X8_placeBehind_36, e_X8_placeBehind_37, e_X8_placeBehind_38, e_X8_placeBehind_39, e_X8_placeBehind_40, e_X8_placeBehind_41, hk0, not_false_eq_true, if_true, M.f12, M1.f12, Option.bind_some, e1, nI_lt0, if_f, ld, m1_lt0, if_false, show (-1 : Int32) + nI 1 = nI 0 by decide, Nat.zero_add]
    obtain ⟨j1, j2⟩ := pb_scan (d := d) hd hw k 0 (by omega) 256 0 σ _ h1 .null (by omega) B1 T1
    have e0 : srQ l w (k + 1) σ = fso (lnS l (srQ l w k) σ) 0 256 := rfl
    rw [e0]
    cases hq : fso (lnS l (srQ l w k) σ) 0 256 with
    | some r =>
      obtain ⟨h4, T4, e4, B4, g4, p4, q4, d4⟩ := j1 r hq
      refine ⟨h4, T4, ?_, g4, D1.trans d4, B4, fun j x hx => ?_⟩
      · rw [st, e4]; rfl
      · have := q4 j x hx; rw [Nat.zero_add] at this; exact this
    | none =>
      obtain ⟨h4, T4, w4, e4, B4, g4, p4, d4⟩ := j2 hq
      refine ⟨h4, T4, ?_, g4, D1.trans d4, B4⟩
      rw [st, e4]
      simp (disch := first | assumption | omega) only [e_X8_placeBehind_14, e_X8_placeBehind_15, e_X8_placeBehind_97, e_X8_placeBehind_98, show nI 0 + (-1) = (-1 : Int32) from rfl, m1_lt0, if_true]
      rfl
end Md6R
