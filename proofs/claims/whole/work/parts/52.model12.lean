/-! THE MODEL: a row comes in, behind the fewest moves -/
theorem srQ_mv {l : List Rl} {w : Nat × Nat} : ∀ (k : Nat) (σ : Sl) (r : Sl × Mvs × Nat), srQ l w k σ = some r → r.2.1.length = k ∧ (∀ x ∈ r.2.1, x.1 < 16 ∧ x.2 < 16) ∧ r.2.2 < 16 := by
  intro k
  induction k with
  | zero =>
    intro σ r h
    unfold srQ at h
    cases hq : loA l σ w with
    | none => rw [hq] at h; cases h
    | some s =>
      rw [hq] at h
      cases h
      have a1 := (fup_some.mp hq).1
      have a2 := (fup_some.mp hq).2.1
      have a3 := ceA_le l σ w
      exact ⟨rfl, fun x hx => by simp at hx, by dsimp only; omega⟩
  | succ k ih =>
    intro σ r h
    obtain ⟨i, -, hi, hf⟩ := fso_some (show fso (lnS l (srQ l w k) σ) 0 256 = some r from h)
    unfold lnS at hf
    split at hf
    · cases hr : srQ l w k (mvS σ (i / 16) (i % 16)) with
      | none => rw [hr] at hf; cases hf
      | some y =>
        rw [hr] at hf
        cases hf
        obtain ⟨i1, i2, i3⟩ := ih _ _ hr
        refine ⟨by simp [i1], fun x hx => ?_, i3⟩
        rcases List.mem_cons.mp hx with q | q
        · rw [q]; exact ⟨by dsimp only; omega, by dsimp only; omega⟩
        · exact i2 x q
    · cases hf
section Md8R
variable {h : XH} {m : Nat} {cm ca lm ra nu nr mm nm : Int32} {l : List Rl} {σ : Sl} {d : Nat} {w : Nat × Nat}
theorem Mb.put (B : Mb h m cm ca lm ra nu nr mm nm l σ) {s : Nat} (hs : s < 16) (hw : w.1 < l.length) (hp : w.2 < rwR (rlN l w.1)) : ∃ h1 h2 h3, xst h (m + 1) 0 (nI (81 + s)) (nI w.1) = some h1 ∧ xst h1 (m + 1) 0 (nI (97 + s)) (nI w.2) = some h2 ∧ xst h2 (m + 4) 0 (nI s) (nI (mk l w)) = some h3 ∧ MdO h1 m cm ca lm ra nu nr mm nm ∧ MdO h2 m cm ca lm ra nu nr mm nm ∧ Mb h3 m cm ca lm ra nu nr mm nm l (ptS σ s w) ∧ Dif h h3 (NM m) := by
  obtain ⟨M, f, g, A, L, R, G, K⟩ := B
  obtain ⟨h1, e1, A1, s1⟩ := ia_w A (by decide) (show 81 + s < 113 by omega) (nI w.1)
  have M1 : MdO h1 m cm ca lm ra nu nr mm nm := by unfold MdO; rw [s1.2 _ (by omega)]; exact M
  obtain ⟨h2, e2, A2, s2⟩ := ia_w A1 (by decide) (show 97 + s < 113 by omega) (nI w.2)
  have M2 : MdO h2 m cm ca lm ra nu nr mm nm := by unfold MdO; rw [s2.2 _ (by omega)]; exact M1
  have G2 : h2[m + 4]? = some (ia 16 g) := by rw [s2.2 _ (by omega), s1.2 _ (by omega)]; exact G
  obtain ⟨h3, e3, G3, s3⟩ := ia_w G2 (by decide) hs (nI (mk l w))
  have M3 : MdO h3 m cm ca lm ra nu nr mm nm := by unfold MdO; rw [s3.2 _ (by omega)]; exact M2
  have A3 := A2
  rw [← s3.2 _ (by omega)] at A3
  refine ⟨h1, h2, h3, e1, e2, e3, M1, M2, ⟨M3, _, _, A3, L.congr (fun k hk => ?_), fun j hj => ?_, G3, fun j hj => ?_⟩, ((s1.dif (fun i h1 h2 => by unfold NM; omega)).trans (s2.dif (fun i h1 h2 => by unfold NM; omega))).trans (s3.dif (fun i h1 h2 => by unfold NM; omega))⟩
  · rw [upd_n (by omega), upd_n (by omega)]
  · unfold ptS
    by_cases q : j = s
    · rw [if_pos q, q]
      exact ⟨hw, hp, by rw [upd_n (by omega), upd_s], upd_s⟩
    · rw [if_neg q]
      have r := R j hj
      unfold rsIs at r ⊢
      rw [upd_n (by omega), upd_n (by omega), upd_n (by omega), upd_n (by omega)]
      exact r
  · unfold ptS
    by_cases q : j = s
    · rw [if_pos q, q, upd_s]; rfl
    · rw [if_neg q, upd_n q]; exact K j hj
def CrR (h : XH) (m : Nat) (cm ca lm ra nu nr mm : Int32) (l : List Rl) (σ : Sl) (ms : Mvs) (o : Option (Sl × Mvs)) : Prop := match o with
  | some x => Mb h m cm ca lm ra nu nr mm (nI (ms ++ x.2).length) l x.1 ∧ NLg h m (ms ++ x.2)
  | none => Mb h m cm ca lm ra nu nr mm (nI ms.length) l σ ∧ NLg h m ms
theorem q_comesRow (hd : dst l) (hw : w.1 < l.length) (hp : w.2 < rwR (rlN l w.1)) {ms : Mvs} (hms : ms.length + 3 ≤ 48) {T : Nat → Int32} (B : Mb h m cm ca lm ra nu nr mm (nI ms.length) l σ) (hT : h[m + 7]? = some (ia 3 T)) (N : NLg h m ms) :
    ∃ h' T', xc XP (d + 4) 147 [.ref m, .int (nI w.1), .int (nI w.2)] h = some (some (.int (bI (srA l w σ).isSome)), h') ∧ h'[m + 7]? = some (ia 3 T') ∧ CrR h' m cm ca lm ra nu nr mm l σ ms (srA l w σ) ∧ Dif h h' (CT m) := by
  have nt : ∀ {h h' : XH}, Dif h h' (NT m) → Dif h h' (CT m) := fun D => D.weak (fun i hi => by unfold NT at hi; unfold CT; omega)
  have nmw : ∀ {h h' : XH}, Dif h h' (NM m) → Dif h h' (CT m) := fun D => D.weak (fun i hi => by unfold NM at hi; unfold CT; omega)
  have key : ∀ (n k : Nat) (h : XH) (T : Nat → Int32) (a5 a6 : Value), k + n = 4 → Mb h m cm ca lm ra nu nr mm (nI ms.length) l σ → h[m + 7]? = some (ia 3 T) → NLg h m ms →
      ∃ h' T', xe XP (d + 4) 147 (8, [.ref m, .int (nI w.1), .int (nI w.2), .int (nI (mk l w)), .int (nI k), a5, a6], [], h) = some (some (.int (bI (fso (fun k => srch l w k σ) k n).isSome)), h') ∧ h'[m + 7]? = some (ia 3 T') ∧ CrR h' m cm ca lm ra nu nr mm l σ ms (fso (fun k => srch l w k σ) k n) ∧ Dif h h' (CT m) := by
    intro n
    induction n with
    | zero =>
      intro k h T a5 a6 hk B hT N
      refine ⟨h, T, ?_, hT, ⟨B, N⟩, Dif.refl _ _⟩
      simp (disch := first | assumption | omega) only [e_X8_comesRow_8, e_X8_comesRow_9, e_X8_comesRow_10, e_X8_comesRow_78, e_X8_comesRow_79, nI_ltI, if_t, rk_0, if_true]
      rfl
    | succ n ih =>
      intro k h T a5 a6 hk B hT N
      have c0 := B.1.k
      obtain ⟨h1, T1, e1, g1, d1, r1⟩ := q_placeBehind (d := d) hd hw B hT (k := k) (by omega)
      have N1 := N.dif d1 (by unfold NT; omega) (by unfold NT; omega)
      rw [fso_succ]
      have hs := srch_srQ (l := l) (w := w) k σ
      cases hq : srQ l w k σ with
      | none =>
        rw [hq] at e1 r1 hs
        have hs : srch l w k σ = none := hs
        obtain ⟨h2, T2, e2, g2, r2, d2⟩ := ih (k + 1) h1 T1 (.int (-4)) a6 (by omega) r1 g1 N1
        rw [hs]
        refine ⟨h2, T2, ?_, g2, r2, (nt d1).trans d2⟩
        have e1 : xc XP (d + 3) 146 [.ref m, .int (nI w.1), .int (nI (mk l w)), .int (nI k)] h = some (some (.int (-4)), h1) := e1
        rw [e_X8_comesRow_8]
        simp (disch := first | assumption | omega) only [e_X8_comesRow_9, e_X8_comesRow_10, e_X8_comesRow_11, e_X8_comesRow_12, e_X8_comesRow_13, e_X8_comesRow_14, e_X8_comesRow_15, e_X8_comesRow_16, e_X8_comesRow_17, e_X8_comesRow_18, e_X8_comesRow_19, e_X8_comesRow_76, e_X8_comesRow_77, nI_ltI, if_f, e1, xbk_i, if_true, nI_add, e2]
      | some r =>
        rw [hq] at e1 r1 hs
        obtain ⟨B1, hTm⟩ := r1
        obtain ⟨q1, q2, q3⟩ := srQ_mv k σ r hq
        have hs : srch l w k σ = some (ptS r.1 r.2.2 w, r.2.1) := hs
        have e1 : xc XP (d + 3) 146 [.ref m, .int (nI w.1), .int (nI (mk l w)), .int (nI k)] h = some (some (.int (nI r.2.2)), h1) := e1
        have B1' : Mb h1 m cm ca lm ra nu nr mm (nI (ms ++ []).length) l r.1 := by rw [List.append_nil]; exact B1
        have N1' : NLg h1 m (ms ++ []) := by rw [List.append_nil]; exact N1
        obtain ⟨h2, e2, B2, g2, N2, d2⟩ := cr_log (d := d) (a1 := .int (nI w.1)) (a2 := .int (nI w.2)) (a3 := .int (nI (mk l w))) (a5 := .int (nI r.2.2)) hTm q2 (by omega) ms (by omega) r.2.1 [] h1 rfl B1' g1 N1'
        obtain ⟨k1, k2, k3, e3, e4, e5, M3, M4, B5, d5⟩ := B2.put (w := w) q3 hw hp
        have M2 := B2.1
        rw [hs]
        refine ⟨k3, T1, ?_, by rw [d5.2 _ (by unfold NM; omega)]; exact g2, ⟨B5, N2.dif d5 (by unfold NM; omega) (by unfold NM; omega)⟩, ((nt d1).trans d2).trans (nmw d5)⟩
        rw [q1] at e2
        have hne : ¬ nI r.2.2 = -4 := nI_n4 (by omega)
        have e2 : xe XP (d + 4) 147 (22, [.ref m, .int (nI w.1), .int (nI w.2), .int (nI (mk l w)), .int (nI k), .int (nI r.2.2), .int (nI 0)], [], h1) = xe XP (d + 4) 147 (55, [.ref m, .int (nI w.1), .int (nI w.2), .int (nI (mk l w)), .int (nI k), .int (nI r.2.2), .int (nI k)], [], h2) := e2
        simp (disch := first | assumption | omega) only [e_X8_comesRow_8, e_X8_comesRow_9, e_X8_comesRow_10, e_X8_comesRow_11, e_X8_comesRow_12, e_X8_comesRow_13, e_X8_comesRow_14, e_X8_comesRow_15, e_X8_comesRow_16, e_X8_comesRow_17, e_X8_comesRow_18, e_X8_comesRow_19, e_X8_comesRow_20, e_X8_comesRow_21, nI_ltI, if_f, e1, xbk_i, hne, if_false]
        rw [e2]
        simp (disch := first | assumption | omega) only [e_X8_comesRow_55, e_X8_comesRow_56, e_X8_comesRow_57, e_X8_comesRow_58, e_X8_comesRow_59, e_X8_comesRow_60, e_X8_comesRow_61, e_X8_comesRow_62, e_X8_comesRow_63, e_X8_comesRow_64, e_X8_comesRow_65, e_X8_comesRow_66, e_X8_comesRow_67, e_X8_comesRow_68, e_X8_comesRow_69, e_X8_comesRow_70, e_X8_comesRow_71, e_X8_comesRow_72, e_X8_comesRow_73, e_X8_comesRow_74, e_X8_comesRow_75, M2.f0, M3.f0, M4.f5, Option.bind_some, nI_add, e3, e4, e5, rk_1, if_true]
        rfl
  obtain ⟨M, f, g, A, L, R, G, K⟩ := B
  have qm := q_maskOf (d := d) A L hw hp
  obtain ⟨h', T', e, r⟩ := key 4 0 h T .null .null (by omega) ⟨M, f, g, A, L, R, G, K⟩ hT N
  refine ⟨h', T', ?_, r⟩
  rw [n_X8_comesRow]
  simp (disch := first | assumption | omega) only [e_X8_comesRow_0, e_X8_comesRow_1, e_X8_comesRow_2, e_X8_comesRow_3, e_X8_comesRow_4, e_X8_comesRow_5, e_X8_comesRow_6, e_X8_comesRow_7, M.f0, Option.bind_some, qm, xbk_i]
  exact e
end Md8R
