/-! THE MODEL: it reads a rule -/
def Told (h : XH) (m : Nat) (l : List Rl) : Prop := ∃ b, h[m + 6]? = some (ba 100 b) ∧ ∀ k, k < 100 → b k = bI (nofR l k).isSome
def FQ (h : XH) (m : Nat) (tx : List Nat) (cm ca mm nm : Int32) (l : List Rl) (i : Nat) (nu : Int32) : Prop := MdO h m cm ca (nI tx.length) (nI i) nu (nI (allR l)) mm nm ∧ TX h m tx ∧ (∃ f3, h[m + 3]? = some (ia 113 f3) ∧ RwL f3 l ∧ RwS f3 l (fun _ => none)) ∧ Told h m l
def FX (h : XH) (m : Nat) (tx : List Nat) (cm ca mm nm : Int32) : Prop := (∃ ra nu nr, MdO h m cm ca (nI tx.length) ra nu nr mm nm) ∧ (∃ f3, h[m + 3]? = some (ia 113 f3)) ∧ ∃ b, h[m + 6]? = some (ba 100 b)
def RD (m i : Nat) : Prop := i = m ∨ i = m + 3 ∨ i = m + 6
def okR (l : List Rl) (o : Option (Rl × Nat)) : Bool := match o with
  | none => false
  | some x => (nofR l x.1.1).isNone
def RRes (h h' : XH) (m : Nat) (tx : List Nat) (cm ca mm nm : Int32) (l : List Rl) (o : Option (Rl × Nat)) : Prop := FX h' m tx cm ca mm nm ∧ Dif h h' (RD m) ∧ ∀ x, o = some x → okR l o = true → ∃ nu, FQ h' m tx cm ca mm nm (l ++ [x.1]) x.2 nu
theorem allR_app {l : List Rl} {q : Rl} : allR (l ++ [q]) = allR l + rwR q := by
  unfold allR
  have hl : (l ++ [q]).length = l.length + 1 := by simp
  rw [hl]
  show itr _ 0 l.length + rwR (rlN (l ++ [q]) l.length) = _
  rw [rlN_last, itr_congr (g := fun j a => a + rwR (rlN l j)) (fun j a hj => by rw [rlN_app hj])]
theorem nofR_app {l : List Rl} {q : Rl} {k : Nat} : (nofR (l ++ [q]) k).isSome = ((nofR l k).isSome || decide (q.1 = k)) := by
  unfold nofR
  have hl : (l ++ [q]).length = l.length + 1 := by simp
  rw [hl, fup_last, fup_congr (q := fun j => decide ((rlN l j).1 = k)) (fun j _ hj => by rw [rlN_app (by omega)]), rlN_last]
  cases fup (fun j => decide ((rlN l j).1 = k)) 0 l.length with
  | some s => rfl
  | none =>
    by_cases g : q.1 = k
    · simp [g]
    · simp [g]
theorem rulS3_none {tx : List Nat} {k hd f i : Nat} (hf : 15 < f) : rulS3 tx k hd f i = none := by
  unfold rulS3
  split
  · rfl
  · next t j _ => rw [if_neg (fun hh => by have := hh.1; omega)]
section Md30R
variable {h : XH} {m : Nat} {d : Nat} {tx : List Nat} {i : Nat} {cm ca nu nr mm nm : Int32} {l : List Rl}
theorem FQ.upd {h' : XH} {i' : Nat} {nu' : Int32} (Q : FQ h m tx cm ca mm nm l i nu) (M : MdO h' m cm ca (nI tx.length) (nI i') nu' (nI (allR l)) mm nm) (s : Same h h' m (m + 1)) : FQ h' m tx cm ca mm nm l i' nu' := by
  obtain ⟨-, X, ⟨f3, a1, a2, a3⟩, b, b1, b2⟩ := Q
  exact ⟨M, X.same s, ⟨f3, by rw [s.2 _ (by omega)]; exact a1, a2, a3⟩, b, by rw [s.2 _ (by omega)]; exact b1, b2⟩
theorem FQ.x (Q : FQ h m tx cm ca mm nm l i nu) : FX h m tx cm ca mm nm := by
  obtain ⟨M, X, ⟨f3, a1, -⟩, b, b1, -⟩ := Q
  exact ⟨⟨_, _, _, M⟩, ⟨f3, a1⟩, b, b1⟩
theorem RRes.no {h' : XH} {o : Option (Rl × Nat)} (F : FX h' m tx cm ca mm nm) (D : Dif h h' (RD m)) (ho : okR l o = false) : RRes h h' m tx cm ca mm nm l o := ⟨F, D, fun x _ h2 => by rw [ho] at h2; cases h2⟩
theorem RRes.from {h0 h' : XH} {o : Option (Rl × Nat)} (R : RRes h h' m tx cm ca mm nm l o) (s : Same h0 h m (m + 1)) : RRes h0 h' m tx cm ca mm nm l o := ⟨R.1, (s.dif (fun i h1 h2 => by unfold RD; omega)).trans R.2.1, R.2.2⟩
theorem rd_dif {h' : XH} (s : Same h h' m (m + 1)) : Dif h h' (RD m) := s.dif (fun i h1 h2 => by unfold RD; omega)
theorem rd5 {k hd f t a : Nat} (Q : FQ h m tx cm ca mm nm l i (nI a)) (v : vr (k, hd, f, t, a)) (hN : nofR l k = none) (hl : l.length < 16) : ∃ h', xe XP (d + 2) 135 (82, [.ref m, .int (nI k), .int (nI hd), .int (nI f), .int (nI t)], [], h) = some (some (.int (nI 1)), h') ∧ FQ h' m tx cm ca mm nm (l ++ [(k, hd, f, t, a)]) i (nI a) ∧ Dif h h' (RD m) := by
  obtain ⟨M, X, ⟨f3, a1, a2, a3⟩, b, b1, b2⟩ := Q
  have v1 : k < 100 := v.1
  obtain ⟨h1, e1, B1, s1⟩ := ba_w b1 (by decide) (show k < 100 by omega) true
  rw [bI_t] at e1
  have M1 : MdO h1 m cm ca (nI tx.length) (nI i) (nI a) (nI (allR l)) mm nm := by unfold MdO; rw [s1.2 _ (by omega)]; exact M
  have A1 : h1[m + 3]? = some (ia 113 f3) := by rw [s1.2 _ (by omega)]; exact a1
  have l0 := ra_ld A1 0 (by omega)
  rw [a2.2.2.1] at l0
  obtain ⟨h2, f2, e2, A2, L2, o2, s2⟩ := q_comes (d := d + 1) A1 a2 v hl
  have e2 : xc XP (d + 1) 114 [.ref (m + 3), .int (nI k), .int (nI hd), .int (nI f), .int (nI t), .int (nI a)] h1 = some (none, h2) := e2
  have M2 : MdO h2 m cm ca (nI tx.length) (nI i) (nI a) (nI (allR l)) mm nm := by unfold MdO; rw [s2.2 _ (by omega)]; exact M1
  have hlen : (l ++ [(k, hd, f, t, a)]).length = l.length + 1 := by simp
  have l2 := ra_ld A2 0 (by omega)
  rw [L2.2.2.1, hlen] at l2
  have q5 := q_rowsOfM (d := d) A2 L2 (r := l.length) (by omega)
  rw [rlN_last] at q5
  obtain ⟨h3, e3, M3, s3⟩ := M2.w10 (nI (allR l + rwR (k, hd, f, t, a)))
  have E3 : ∀ j, j ≠ m → j ≠ m + 3 → j ≠ m + 6 → h3[j]? = h[j]? := fun j q1 q2 q3 => by rw [s3.2 _ (by omega), s2.2 _ (by omega), s1.2 _ (by omega)]
  refine ⟨h3, ?_, ⟨by rw [allR_app]; exact M3, ?_, ⟨f2, by rw [s3.2 _ (by omega)]; exact A2, L2, RwS.app a3 o2⟩, _, by rw [s3.2 _ (by omega), s2.2 _ (by omega)]; exact B1, ?_⟩, ⟨by rw [s3.1, s2.1, s1.1], fun j hj => E3 j (fun q => hj (by unfold RD; omega)) (fun q => hj (by unfold RD; omega)) (fun q => hj (by unfold RD; omega))⟩⟩
  · have h16 := a2.1
    simp (disch := first | assumption | omega) only [e_X8_readsRule_82, e_X8_readsRule_83, e_X8_readsRule_84, e_X8_readsRule_85, e_X8_readsRule_86, e_X8_readsRule_87, e_X8_readsRule_88, e_X8_readsRule_89, e_X8_readsRule_90, e_X8_readsRule_91, e_X8_readsRule_92, e_X8_readsRule_93, e_X8_readsRule_94, e_X8_readsRule_95, e_X8_readsRule_96, e_X8_readsRule_97, e_X8_readsRule_98, e_X8_readsRule_99, e_X8_readsRule_100, e_X8_readsRule_101, e_X8_readsRule_102, e_X8_readsRule_103, e_X8_readsRule_104, e_X8_readsRule_105, e_X8_readsRule_106, e_X8_readsRule_107, e_X8_readsRule_108, e_X8_readsRule_109, e_X8_readsRule_110, e_X8_readsRule_111, e_X8_readsRule_112, e_X8_readsRule_113, e_X8_readsRule_114, e_X8_readsRule_115, e_X8_readsRule_116, e_X8_readsRule_123, e_X8_readsRule_124, M.f11, M1.f4, M1.f9, M2.f4, M2.f10, Option.bind_some, e1, l0, nI_leI, if_f, e2, xbk_v, xbk_i, l2, pk_sub, Nat.add_sub_cancel, q5, nI_add, e3, rk_1, if_true]
  · obtain ⟨x1, x2, tt, x3, x4⟩ := X
    exact ⟨x1, x2, tt, by rw [E3 _ (by omega) (by omega) (by omega)]; exact x3, x4⟩
  · intro j hj
    rw [nofR_app]
    by_cases g : j = k
    · subst g; rw [upd_s]; simp
    · rw [upd_n g, b2 j hj]
      rw [decide_eq_false (show ¬ (k, hd, f, t, a).1 = j from fun e => g e.symm), Bool.or_false]
theorem rd4 {k hd f t : Nat} (Q : FQ h m tx cm ca mm nm l i nu) (hi : i < 800) (hk : k < 100) (hh : vh hd) (hft : f ≤ t) (ht : t < 16) (hl : ∀ x, rulS4 tx k hd f t i = some x → l.length < 16) : ∃ h', xe XP (d + 2) 135 (67, [.ref m, .int (nI k), .int (nI hd), .int (nI f), .int (nI t)], [], h) = some (some (.int (bI (okR l (rulS4 tx k hd f t i)))), h') ∧ RRes h h' m tx cm ca mm nm l (rulS4 tx k hd f t i) := by
  have c0 := Q.1.k
  obtain ⟨h1, j, n, e1, M1, p1, s1⟩ := q_isNumber1 (d := d) Q.1 Q.2.1 (by omega)
  unfold rulS4 at hl ⊢
  cases ha : figS tx i with
  | none =>
    rw [ha] at e1
    refine ⟨h1, ?_, RRes.no (Q.upd (i' := j) M1 s1).x (rd_dif s1) rfl⟩
    simp (disch := first | assumption | omega) only [e_X8_readsRule_67, e_X8_readsRule_68, e_X8_readsRule_69, e_X8_readsRule_70, e_X8_readsRule_71, e_X8_readsRule_80, e_X8_readsRule_81, e1, xbk_i, Option.isSome_none, bI_f, if_true, rk_0]
    rfl
  | some a =>
    rw [ha] at e1 hl
    obtain ⟨rfl, rfl⟩ := p1 a ha
    have a10 := (figS_lt ha).1
    have c1 := M1.k
    have Q1 := Q.upd M1 s1
    obtain ⟨h2, e2, M2, s2⟩ := q_takes (d := d) M1 Q1.2.1 (by omega) (c := 59) (by omega) (by omega)
    have c2 := M2.k
    cases hc : isC tx (i + 1) 59 with
    | false =>
      rw [hc] at e2
      refine ⟨h2, ?_, RRes.no (Q1.upd M2 s2).x (rd_dif (s1.trans s2)) rfl⟩
      simp (disch := first | assumption | omega) only [e_X8_readsRule_67, e_X8_readsRule_68, e_X8_readsRule_69, e_X8_readsRule_70, e_X8_readsRule_71, e_X8_readsRule_72, e_X8_readsRule_73, e_X8_readsRule_74, e_X8_readsRule_75, e_X8_readsRule_80, e_X8_readsRule_81, e1, e2, xbk_i, Option.isSome_some, bI_0, bI_f, Bool.true_eq_false, if_false, if_true, rk_0]
      rfl
    | true =>
      rw [hc] at e2 M2 hl
      have Q2 := Q1.upd M2 s2
      have M2 : MdO h2 m cm ca (nI tx.length) (nI (i + 2)) (nI n) (nI (allR l)) mm nm := M2
      have Q2 : FQ h2 m tx cm ca mm nm l (i + 2) (nI n) := Q2
      obtain ⟨b, b1, b2⟩ := Q2.2.2.2
      have lb := xld_ba b1 (by decide) hk
      rw [b2 k hk] at lb
      have qt : xc XP (d + 1) 136 [.ref m, .int (nI k)] h2 = some (some (.int (bI (nofR l k).isSome)), h2) := by
        rw [n_X8_isTold]
        simp (disch := first | assumption | omega) only [e_X8_isTold_0, e_X8_isTold_1, e_X8_isTold_2, e_X8_isTold_3, e_X8_isTold_4, M2.f11, Option.bind_some, lb, bI_rk, if_true]
      have hl := hl _ rfl
      cases hN : nofR l k with
      | some y =>
        rw [hN] at qt
        have ho : okR l (some ((k, hd, f, t, n), i + 2)) = false := by show (nofR l k).isNone = false; rw [hN]; rfl
        refine ⟨h2, ?_, RRes.no Q2.x (rd_dif (s1.trans s2)) ho⟩
        simp (disch := first | assumption | omega) only [e_X8_readsRule_67, e_X8_readsRule_68, e_X8_readsRule_69, e_X8_readsRule_70, e_X8_readsRule_71, e_X8_readsRule_72, e_X8_readsRule_73, e_X8_readsRule_74, e_X8_readsRule_75, e_X8_readsRule_76, e_X8_readsRule_77, e_X8_readsRule_78, e_X8_readsRule_79, e_X8_readsRule_80, e_X8_readsRule_81, e1, e2, qt, xbk_i, Option.isSome_some, bI_0, bI_f, Bool.true_eq_false, if_false, if_true, rk_0]
        rw [ho]
        rfl
      | none =>
        rw [hN] at qt
        have ho : okR l (some ((k, hd, f, t, n), i + 2)) = true := by show (nofR l k).isNone = true; rw [hN]; rfl
        obtain ⟨h3, e3, Q3, D3⟩ := rd5 (d := d) Q2 (show vr (k, hd, f, t, n) from ⟨hk, hh, hft, ht, a10⟩) hN hl
        refine ⟨h3, ?_, Q3.x, (rd_dif (s1.trans s2)).trans D3, fun x hx _ => (by cases hx; exact ⟨_, Q3⟩)⟩
        simp (disch := first | assumption | omega) only [e_X8_readsRule_67, e_X8_readsRule_68, e_X8_readsRule_69, e_X8_readsRule_70, e_X8_readsRule_71, e_X8_readsRule_72, e_X8_readsRule_73, e_X8_readsRule_74, e_X8_readsRule_75, e_X8_readsRule_76, e_X8_readsRule_77, e_X8_readsRule_78, e_X8_readsRule_79, e1, e2, qt, xbk_i, Option.isSome_some, Option.isSome_none, bI_0, bI_f, Bool.true_eq_false, if_false, if_true, e3]
        rw [ho]
        rfl
theorem rd3 {k hd f : Nat} {w4 : Value} (Q : FQ h m tx cm ca mm nm l i nu) (hi : i < 700) (hk : k < 100) (hh : vh hd) (hf : f ≤ 15) (hl : ∀ x, rulS3 tx k hd f i = some x → l.length < 16) : ∃ h', xe XP (d + 2) 135 (49, [.ref m, .int (nI k), .int (nI hd), .int (nI f), w4], [], h) = some (some (.int (bI (okR l (rulS3 tx k hd f i)))), h') ∧ RRes h h' m tx cm ca mm nm l (rulS3 tx k hd f i) := by
  have c0 := Q.1.k
  obtain ⟨h1, j, n, e1, M1, p1, s1⟩ := q_isNumber2 (d := d) Q.1 Q.2.1 (by omega) (mo := 15) (by omega)
  unfold rulS3 at hl ⊢
  cases ha : numS tx i with
  | none =>
    rw [ha] at e1
    refine ⟨h1, ?_, RRes.no (Q.upd M1 s1).x (rd_dif s1) rfl⟩
    simp (disch := first | assumption | omega) only [e_X8_readsRule_49, e_X8_readsRule_50, e_X8_readsRule_51, e_X8_readsRule_52, e_X8_readsRule_53, e_X8_readsRule_62, e_X8_readsRule_63, e1, xbk_i, bI_f, if_true, rk_0]
    rfl
  | some x =>
    obtain ⟨t, j'⟩ := x
    rw [ha] at e1 hl
    obtain ⟨ej, en⟩ : j' = j ∧ t = n := (p1 _ ha).imp Eq.symm Eq.symm
    subst ej
    subst en
    have hb := numS_lt ha
    have c1 := M1.k
    have Q1 := Q.upd M1 s1
    simp only [] at e1 hl M1 Q1 ⊢
    by_cases g1 : t ≤ 15
    · rw [decide_eq_true g1] at e1
      by_cases g2 : f ≤ t
      · obtain ⟨h2, e2, M2, s2⟩ := q_takes (d := d) M1 Q1.2.1 (by omega) (c := 44) (by omega) (by omega)
        have c2 := M2.k
        cases hc : isC tx j' 44 with
        | false =>
          rw [hc] at e2
          rw [if_neg (fun hh => by cases hh.2)]
          refine ⟨h2, ?_, RRes.no (Q1.upd M2 s2).x (rd_dif (s1.trans s2)) rfl⟩
          simp (disch := first | assumption | omega) only [e_X8_readsRule_49, e_X8_readsRule_50, e_X8_readsRule_51, e_X8_readsRule_52, e_X8_readsRule_53, e_X8_readsRule_54, e_X8_readsRule_55, e_X8_readsRule_56, e_X8_readsRule_57, e_X8_readsRule_58, e_X8_readsRule_59, e_X8_readsRule_60, e_X8_readsRule_61, e_X8_readsRule_62, e_X8_readsRule_63, e1, e2, M1.f9, Option.bind_some, nI_ltI, if_f, xbk_i, bI_0, bI_f, Bool.true_eq_false, not_true, if_false, if_true, rk_0]
          rfl
        | true =>
          rw [hc] at e2 M2 hl
          have M2 : MdO h2 m cm ca (nI tx.length) (nI (j' + 1)) (nI t) (nI (allR l)) mm nm := M2
          have Q2 := Q1.upd M2 s2
          rw [if_pos ⟨⟨g2, by omega⟩, rfl⟩] at hl ⊢
          obtain ⟨h3, e3, R3⟩ := rd4 (d := d) (k := k) (hd := hd) (f := f) (t := t) Q2 (by omega) hk hh g2 (by omega) hl
          refine ⟨h3, ?_, R3.from (s1.trans s2)⟩
          simp (disch := first | assumption | omega) only [e_X8_readsRule_49, e_X8_readsRule_50, e_X8_readsRule_51, e_X8_readsRule_52, e_X8_readsRule_53, e_X8_readsRule_54, e_X8_readsRule_55, e_X8_readsRule_56, e_X8_readsRule_57, e_X8_readsRule_58, e_X8_readsRule_59, e_X8_readsRule_60, e_X8_readsRule_61, e_X8_readsRule_64, e_X8_readsRule_65, e_X8_readsRule_66, e1, e2, M1.f9, M2.f9, Option.bind_some, nI_ltI, if_f, xbk_i, bI_0, bI_f, Bool.true_eq_false, not_false_eq_true, if_false, if_true, e3]
      · rw [if_neg (fun hh => g2 hh.1.1)]
        refine ⟨h1, ?_, RRes.no Q1.x (rd_dif s1) rfl⟩
        simp (disch := first | assumption | omega) only [e_X8_readsRule_49, e_X8_readsRule_50, e_X8_readsRule_51, e_X8_readsRule_52, e_X8_readsRule_53, e_X8_readsRule_54, e_X8_readsRule_55, e_X8_readsRule_56, e_X8_readsRule_57, e_X8_readsRule_62, e_X8_readsRule_63, e1, M1.f9, Option.bind_some, nI_ltI, if_t, xbk_i, bI_0, bI_f, Bool.true_eq_false, if_false, if_true, rk_0]
        rfl
    · rw [decide_eq_false g1] at e1
      rw [if_neg (fun hh => by have := hh.1; omega)]
      refine ⟨h1, ?_, RRes.no Q1.x (rd_dif s1) rfl⟩
      simp (disch := first | assumption | omega) only [e_X8_readsRule_49, e_X8_readsRule_50, e_X8_readsRule_51, e_X8_readsRule_52, e_X8_readsRule_53, e_X8_readsRule_62, e_X8_readsRule_63, e1, xbk_i, bI_f, if_true, rk_0]
      rfl
theorem rd2 {k hd : Nat} {w3 w4 : Value} (Q : FQ h m tx cm ca mm nm l i nu) (hi : i < 600) (hk : k < 100) (hh : vh hd) (hl : ∀ x, rulS2 tx k hd i = some x → l.length < 16) : ∃ h', xe XP (d + 2) 135 (35, [.ref m, .int (nI k), .int (nI hd), w3, w4], [], h) = some (some (.int (bI (okR l (rulS2 tx k hd i)))), h') ∧ RRes h h' m tx cm ca mm nm l (rulS2 tx k hd i) := by
  have c0 := Q.1.k
  obtain ⟨h1, j, n, e1, M1, p1, s1⟩ := q_isNumber2 (d := d) Q.1 Q.2.1 (by omega) (mo := 15) (by omega)
  unfold rulS2 at hl ⊢
  cases ha : numS tx i with
  | none =>
    rw [ha] at e1
    refine ⟨h1, ?_, RRes.no (Q.upd M1 s1).x (rd_dif s1) rfl⟩
    simp (disch := first | assumption | omega) only [e_X8_readsRule_35, e_X8_readsRule_36, e_X8_readsRule_37, e_X8_readsRule_38, e_X8_readsRule_39, e_X8_readsRule_44, e_X8_readsRule_45, e1, xbk_i, bI_f, if_true, rk_0]
    rfl
  | some x =>
    obtain ⟨f, j'⟩ := x
    rw [ha] at e1 hl
    obtain ⟨ej, en⟩ : j' = j ∧ f = n := (p1 _ ha).imp Eq.symm Eq.symm
    subst ej
    subst en
    have hb := numS_lt ha
    have c1 := M1.k
    have Q1 := Q.upd M1 s1
    simp only [] at e1 hl M1 Q1 ⊢
    by_cases g1 : f ≤ 15
    · rw [decide_eq_true g1] at e1
      obtain ⟨h2, e2, M2, s2⟩ := q_takes (d := d) M1 Q1.2.1 (by omega) (c := 45) (by omega) (by omega)
      have c2 := M2.k
      cases hc : isC tx j' 45 with
      | false =>
        rw [hc] at e2
        refine ⟨h2, ?_, RRes.no (Q1.upd M2 s2).x (rd_dif (s1.trans s2)) rfl⟩
        simp (disch := first | assumption | omega) only [e_X8_readsRule_35, e_X8_readsRule_36, e_X8_readsRule_37, e_X8_readsRule_38, e_X8_readsRule_39, e_X8_readsRule_40, e_X8_readsRule_41, e_X8_readsRule_42, e_X8_readsRule_43, e_X8_readsRule_44, e_X8_readsRule_45, e1, e2, xbk_i, bI_0, bI_f, Bool.true_eq_false, not_true, if_false, if_true, rk_0]
        rfl
      | true =>
        rw [hc] at e2 M2 hl
        have M2 : MdO h2 m cm ca (nI tx.length) (nI (j' + 1)) (nI f) (nI (allR l)) mm nm := M2
        have Q2 := Q1.upd M2 s2
        rw [if_pos rfl] at hl ⊢
        obtain ⟨h3, e3, R3⟩ := rd3 (d := d) (k := k) (hd := hd) (f := f) (w4 := w4) Q2 (by omega) hk hh g1 hl
        refine ⟨h3, ?_, R3.from (s1.trans s2)⟩
        simp (disch := first | assumption | omega) only [e_X8_readsRule_35, e_X8_readsRule_36, e_X8_readsRule_37, e_X8_readsRule_38, e_X8_readsRule_39, e_X8_readsRule_40, e_X8_readsRule_41, e_X8_readsRule_42, e_X8_readsRule_43, e_X8_readsRule_46, e_X8_readsRule_47, e_X8_readsRule_48, e1, e2, M2.f9, Option.bind_some, xbk_i, bI_0, bI_f, Bool.true_eq_false, not_false_eq_true, if_false, if_true, e3]
    · rw [decide_eq_false g1] at e1
      have hn : (if isC tx j' 45 = true then rulS3 tx k hd f (j' + 1) else none) = none := by
        split
        · exact rulS3_none (by omega)
        · rfl
      rw [hn]
      refine ⟨h1, ?_, RRes.no Q1.x (rd_dif s1) rfl⟩
      simp (disch := first | assumption | omega) only [e_X8_readsRule_35, e_X8_readsRule_36, e_X8_readsRule_37, e_X8_readsRule_38, e_X8_readsRule_39, e_X8_readsRule_44, e_X8_readsRule_45, e1, xbk_i, bI_f, if_true, rk_0]
      rfl
theorem rd1 {k : Nat} {w2 w3 w4 : Value} (Q : FQ h m tx cm ca mm nm l i nu) (hi : i < 500) (hk : k < 100) (hl : ∀ x, rulS1 tx k i = some x → l.length < 16) : ∃ h', xe XP (d + 2) 135 (14, [.ref m, .int (nI k), w2, w3, w4], [], h) = some (some (.int (bI (okR l (rulS1 tx k i)))), h') ∧ RRes h h' m tx cm ca mm nm l (rulS1 tx k i) := by
  obtain ⟨h0, e0, M0, s0⟩ := Q.1.w9 (nI 0)
  have Q0 := Q.upd M0 s0
  have c0 := M0.k
  obtain ⟨h1, y1, e1, M1, p1, s1⟩ := q_isSign (d := d) M0 Q0.2.1 (by omega)
  have c1 := M1.k
  have Q1 := Q0.upd M1 s1
  unfold rulS1 sgnS at hl ⊢
  cases ha : sgS tx i with
  | none =>
    rw [ha] at e1
    refine ⟨h1, ?_, RRes.no Q1.x (rd_dif (s0.trans s1)) rfl⟩
    simp (disch := first | assumption | omega) only [e_X8_readsRule_14, e_X8_readsRule_15, e_X8_readsRule_16, e_X8_readsRule_17, e_X8_readsRule_18, e_X8_readsRule_19, e_X8_readsRule_30, e_X8_readsRule_31, e0, Option.bind_some, e1, xbk_i, Option.isSome_none, bI_f, if_true, rk_0]
    rfl
  | some a =>
    rw [ha] at e1 hl
    have y1 := p1 a ha
    subst y1
    have a3 := (sgS_lt ha).1
    obtain ⟨h2, y2, e2, M2, p2, s2⟩ := q_isSign (d := d) M1 Q1.2.1 (by omega)
    have c2 := M2.k
    have Q2 := Q1.upd M2 s2
    simp only [] at hl ⊢
    cases hb : sgS tx (i + 1) with
    | none =>
      rw [hb] at e2
      refine ⟨h2, ?_, RRes.no Q2.x (rd_dif ((s0.trans s1).trans s2)) rfl⟩
      simp (disch := first | assumption | omega) only [e_X8_readsRule_14, e_X8_readsRule_15, e_X8_readsRule_16, e_X8_readsRule_17, e_X8_readsRule_18, e_X8_readsRule_19, e_X8_readsRule_20, e_X8_readsRule_21, e_X8_readsRule_22, e_X8_readsRule_30, e_X8_readsRule_31, e0, Option.bind_some, e1, e2, xbk_i, Option.isSome_some, Option.isSome_none, bI_0, bI_f, Bool.true_eq_false, if_false, if_true, rk_0]
      rfl
    | some b =>
      rw [hb] at e2 hl
      have y2 := p2 b hb
      subst y2
      have b3 := (sgS_lt hb).1
      obtain ⟨h3, y3, e3, M3, p3, s3⟩ := q_isSign (d := d) M2 Q2.2.1 (by omega)
      have c3 := M3.k
      have Q3 := Q2.upd M3 s3
      simp only [] at hl ⊢
      have s03 := ((s0.trans s1).trans s2).trans s3
      cases hc : sgS tx (i + 2) with
      | none =>
        have e3' := e3
        rw [show i + 1 + 1 = i + 2 by omega, hc] at e3'
        refine ⟨h3, ?_, RRes.no Q3.x (rd_dif s03) rfl⟩
        simp (disch := first | assumption | omega) only [e_X8_readsRule_14, e_X8_readsRule_15, e_X8_readsRule_16, e_X8_readsRule_17, e_X8_readsRule_18, e_X8_readsRule_19, e_X8_readsRule_20, e_X8_readsRule_21, e_X8_readsRule_22, e_X8_readsRule_23, e_X8_readsRule_24, e_X8_readsRule_25, e_X8_readsRule_30, e_X8_readsRule_31, e0, Option.bind_some, e1, e2, e3', xbk_i, Option.isSome_some, Option.isSome_none, bI_0, bI_f, Bool.true_eq_false, if_false, if_true, rk_0]
        rfl
      | some c =>
        have e3' := e3
        rw [show i + 1 + 1 = i + 2 by omega, hc] at e3'
        rw [hc] at hl
        have y3 := p3 c (by rw [show i + 1 + 1 = i + 2 by omega]; exact hc)
        subst y3
        have c3' := (sgS_lt hc).1
        obtain ⟨h4, e4, M4, s4⟩ := q_takes (d := d) M3 Q3.2.1 (by omega) (c := 44) (by omega) (by omega)
        have c4 := M4.k
        have hv : vh ((a * 10 + b) * 10 + c) := sgnS_v (tx := tx) (i := i) (by unfold sgnS; rw [ha]; simp only []; rw [hb]; simp only []; rw [hc])
        simp only [] at hl ⊢
        have ei : i + 1 + 1 + 1 = i + 3 := by omega
        rw [ei] at e4 M4
        cases hcc : isC tx (i + 3) 44 with
        | false =>
          rw [hcc] at e4
          refine ⟨h4, ?_, RRes.no (Q3.upd M4 s4).x (rd_dif (s03.trans s4)) rfl⟩
          simp (disch := first | assumption | omega) only [e_X8_readsRule_14, e_X8_readsRule_15, e_X8_readsRule_16, e_X8_readsRule_17, e_X8_readsRule_18, e_X8_readsRule_19, e_X8_readsRule_20, e_X8_readsRule_21, e_X8_readsRule_22, e_X8_readsRule_23, e_X8_readsRule_24, e_X8_readsRule_25, e_X8_readsRule_26, e_X8_readsRule_27, e_X8_readsRule_28, e_X8_readsRule_29, e_X8_readsRule_30, e_X8_readsRule_31, e0, Option.bind_some, e1, e2, e3', e4, xbk_i, Option.isSome_some, Option.isSome_none, bI_0, bI_f, Bool.true_eq_false, not_true, if_false, if_true, rk_0]
          rfl
        | true =>
          rw [hcc] at e4 M4 hl
          have en : ((0 * 10 + a) * 10 + b) * 10 + c = (a * 10 + b) * 10 + c := by omega
          rw [en] at M4
          have M4 : MdO h4 m cm ca (nI tx.length) (nI (i + 4)) (nI ((a * 10 + b) * 10 + c)) (nI (allR l)) mm nm := M4
          have Q4 := Q3.upd M4 s4
          rw [if_pos rfl] at hl ⊢
          obtain ⟨h5, e5, R5⟩ := rd2 (d := d) (k := k) (hd := (a * 10 + b) * 10 + c) (w3 := w3) (w4 := w4) Q4 (by omega) hk hv hl
          refine ⟨h5, ?_, R5.from (s03.trans s4)⟩
          simp (disch := first | assumption | omega) only [e_X8_readsRule_14, e_X8_readsRule_15, e_X8_readsRule_16, e_X8_readsRule_17, e_X8_readsRule_18, e_X8_readsRule_19, e_X8_readsRule_20, e_X8_readsRule_21, e_X8_readsRule_22, e_X8_readsRule_23, e_X8_readsRule_24, e_X8_readsRule_25, e_X8_readsRule_26, e_X8_readsRule_27, e_X8_readsRule_28, e_X8_readsRule_29, e_X8_readsRule_32, e_X8_readsRule_33, e_X8_readsRule_34, e0, M4.f9, Option.bind_some, e1, e2, e3', e4, xbk_i, Option.isSome_some, bI_0, bI_f, Bool.true_eq_false, not_false_eq_true, if_false, if_true, e5]
theorem q_readsRule (Q : FQ h m tx cm ca mm nm l i nu) (hi : i < 400) (hl : ∀ x, rulS tx i = some x → l.length < 16) : ∃ h', xc XP (d + 2) 135 [.ref m] h = some (some (.int (bI (okR l (rulS tx i)))), h') ∧ RRes h h' m tx cm ca mm nm l (rulS tx i) := by
  have c0 := Q.1.k
  obtain ⟨h1, j, n, e1, M1, p1, s1⟩ := q_isNumber2 (d := d) Q.1 Q.2.1 (by omega) (mo := 99) (by omega)
  rw [n_X8_readsRule]
  unfold rulS at hl ⊢
  cases ha : numS tx i with
  | none =>
    rw [ha] at e1
    refine ⟨h1, ?_, RRes.no (Q.upd M1 s1).x (rd_dif s1) rfl⟩
    simp (disch := first | assumption | omega) only [e_X8_readsRule_0, e_X8_readsRule_1, e_X8_readsRule_2, e_X8_readsRule_3, e_X8_readsRule_4, e_X8_readsRule_9, e_X8_readsRule_10, e1, xbk_i, bI_f, if_true, rk_0]
    rfl
  | some x =>
    obtain ⟨k, j'⟩ := x
    rw [ha] at e1 hl
    obtain ⟨ej, en⟩ : j' = j ∧ k = n := (p1 _ ha).imp Eq.symm Eq.symm
    subst ej
    subst en
    have hb := numS_lt ha
    have c1 := M1.k
    have Q1 := Q.upd M1 s1
    simp only [] at e1 hl M1 Q1 ⊢
    rw [decide_eq_true (show k ≤ 99 by omega)] at e1
    obtain ⟨h2, e2, M2, s2⟩ := q_takes (d := d) M1 Q1.2.1 (by omega) (c := 44) (by omega) (by omega)
    have c2 := M2.k
    cases hc : isC tx j' 44 with
    | false =>
      rw [hc] at e2
      refine ⟨h2, ?_, RRes.no (Q1.upd M2 s2).x (rd_dif (s1.trans s2)) rfl⟩
      simp (disch := first | assumption | omega) only [e_X8_readsRule_0, e_X8_readsRule_1, e_X8_readsRule_2, e_X8_readsRule_3, e_X8_readsRule_4, e_X8_readsRule_5, e_X8_readsRule_6, e_X8_readsRule_7, e_X8_readsRule_8, e_X8_readsRule_9, e_X8_readsRule_10, e1, e2, xbk_i, bI_0, bI_f, Bool.true_eq_false, not_true, if_false, if_true, rk_0]
      rfl
    | true =>
      rw [hc] at e2 M2 hl
      have M2 : MdO h2 m cm ca (nI tx.length) (nI (j' + 1)) (nI k) (nI (allR l)) mm nm := M2
      have Q2 := Q1.upd M2 s2
      rw [if_pos rfl] at hl ⊢
      obtain ⟨h3, e3, R3⟩ := rd1 (d := d) (k := k) (w2 := .null) (w3 := .null) (w4 := .null) Q2 (by omega) (by omega) hl
      refine ⟨h3, ?_, R3.from (s1.trans s2)⟩
      simp (disch := first | assumption | omega) only [e_X8_readsRule_0, e_X8_readsRule_1, e_X8_readsRule_2, e_X8_readsRule_3, e_X8_readsRule_4, e_X8_readsRule_5, e_X8_readsRule_6, e_X8_readsRule_7, e_X8_readsRule_8, e_X8_readsRule_11, e_X8_readsRule_12, e_X8_readsRule_13, e1, e2, M2.f9, Option.bind_some, xbk_i, bI_0, bI_f, Bool.true_eq_false, not_false_eq_true, if_false, if_true, e3]
end Md30R
