/-! THE MODEL: a rule comes in -/
def CQ (m i : Nat) : Prop := i = m ∨ i = m + 1 ∨ i = m + 4 ∨ i = m + 7 ∨ i = m + 10 ∨ i = m + 11 ∨ i = m + 12
def CmR (h : XH) (m : Nat) (cm ca lm ra nu nr mm : Int32) (l : List Rl) (o : Option (Sl × Mvs)) : Prop := match o with
  | some x => Mb h m cm ca lm ra nu nr mm (nI x.2.length) l x.1 ∧ NLg h m x.2
  | none => ∃ nm σ ms, Mb h m cm ca lm ra nu nr mm nm l σ ∧ NLg h m ms
section Md27R
variable {h : XH} {m : Nat} {S : CS} {d : Nat} {cm ca lm ra nu nr mm nm : Int32}
theorem cr_loop {l : List Rl} (hd : dst l) {r : Nat} (hr : r < l.length) {a1 a2 a3 a4 a5 : Value} : ∀ (n p : Nat) (σ : Sl) (ms : Mvs) (h : XH) (T : Nat → Int32), p + n = rwR (rlN l r) → ms.length ≤ 3 * p → Mb h m cm ca lm ra nu nr mm (nI ms.length) l σ → h[m + 7]? = some (ia 3 T) → NLg h m ms →
    ∃ h' T', xe XP (d + 5) 149 (62, [.ref m, a1, a2, a3, a4, a5, .int (nI 1), .int (nI r), .int (nI (rwR (rlN l r))), .int (nI p)], [], h) = some (some (.int (bI (cmS l r n p σ ms).isSome)), h') ∧ h'[m + 7]? = some (ia 3 T') ∧ CmR h' m cm ca lm ra nu nr mm l (cmS l r n p σ ms) ∧ Dif h h' (CT m) := by
  have h6 : rwR (rlN l r) ≤ 6 := rwF_le 6 _ _
  intro n
  induction n with
  | zero =>
    intro p σ ms h T hp hms B hT N
    have hp : p = rwR (rlN l r) := by omega
    refine ⟨h, T, ?_, hT, ⟨B, N⟩, Dif.refl _ _⟩
    rw [hp]
    simp (disch := first | assumption | omega) only [e_X8_comesRule_62, e_X8_comesRule_63, e_X8_comesRule_64, e_X8_comesRule_74, e_X8_comesRule_75, nI_leI, if_t, rk_1, if_true]
    rfl
  | succ n ih =>
    intro p σ ms h T hp hms B hT N
    have c0 := B.1.k
    have l16 : l.length ≤ 16 := by obtain ⟨-, f, g, A, L, -⟩ := B; exact L.1
    obtain ⟨h1, T1, e1, hT1, C1, D1⟩ := q_comesRow (d := d) (w := (r, p)) hd hr (show p < rwR (rlN l r) by omega) (by omega) B hT N
    have e1 : xc XP (d + 4) 147 [.ref m, .int (nI r), .int (nI p)] h = some (some (.int (bI (srA l (r, p) σ).isSome)), h1) := e1
    unfold cmS
    cases hs : srA l (r, p) σ with
    | none =>
      rw [hs] at e1 C1
      obtain ⟨B1, N1⟩ := C1
      refine ⟨h1, T1, ?_, hT1, ⟨_, _, _, B1, N1⟩, D1⟩
      rw [e_X8_comesRule_62]
      by_cases g : rwR (rlN l r) ≤ p + 1
      · simp (disch := first | assumption | omega) only [e_X8_comesRule_62, e_X8_comesRule_63, e_X8_comesRule_64, e_X8_comesRule_65, e_X8_comesRule_66, e_X8_comesRule_67, e_X8_comesRule_68, e_X8_comesRule_69, e_X8_comesRule_70, e_X8_comesRule_71, e_X8_comesRule_72, e_X8_comesRule_73, e_X8_comesRule_74, e_X8_comesRule_75, nI_leI, if_f, if_t, show ¬ nI 1 = nI 0 by decide, if_false, e1, xbk_i, Option.isSome_none, bI_f, nI_add, rk_0, if_true]
      · simp (disch := first | assumption | omega) only [e_X8_comesRule_62, e_X8_comesRule_63, e_X8_comesRule_64, e_X8_comesRule_65, e_X8_comesRule_66, e_X8_comesRule_67, e_X8_comesRule_68, e_X8_comesRule_69, e_X8_comesRule_70, e_X8_comesRule_71, e_X8_comesRule_72, e_X8_comesRule_73, e_X8_comesRule_74, e_X8_comesRule_75, nI_leI, if_f, if_t, show ¬ nI 1 = nI 0 by decide, if_false, e1, xbk_i, Option.isSome_none, bI_f, nI_add, rk_0, if_true]
    | some x =>
      rw [hs] at e1 C1
      obtain ⟨B1, N1⟩ := C1
      have hx := srA_len hs
      obtain ⟨h2, T2, e2, hT2, C2, D2⟩ := ih (p + 1) x.1 (ms ++ x.2) h1 T1 (by omega) (by simp; omega) B1 hT1 N1
      refine ⟨h2, T2, ?_, hT2, C2, D1.trans D2⟩
      rw [e_X8_comesRule_62]
      simp (disch := first | assumption | omega) only [e_X8_comesRule_63, e_X8_comesRule_64, e_X8_comesRule_65, e_X8_comesRule_66, e_X8_comesRule_67, e_X8_comesRule_68, e_X8_comesRule_69, e_X8_comesRule_70, e_X8_comesRule_71, e_X8_comesRule_72, e_X8_comesRule_73, nI_leI, if_f, show ¬ nI 1 = nI 0 by decide, if_false, e1, xbk_i, Option.isSome_some, bI_t, nI_add, e2]
theorem RwS.app {f f' : Nat → Int32} {l : List Rl} {q : Rl} {σ : Sl} (R : RwS f l σ) (h : ∀ k, 81 ≤ k → f' k = f k) : RwS f' (l ++ [q]) σ := by
  intro s hs
  have x := R s hs
  unfold rsIs at x ⊢
  cases hx : σ s with
  | none => rw [hx] at x; simp only [] at x ⊢; rw [h _ (by omega)]; exact x
  | some y =>
    rw [hx] at x
    simp only [] at x ⊢
    obtain ⟨x1, x2, x3, x4⟩ := x
    refine ⟨by simp; omega, by rw [rlN_app x1]; exact x2, by rw [h _ (by omega)]; exact x3, by rw [h _ (by omega)]; exact x4⟩
theorem Msk.app {g f : Nat → Int32} {l : List Rl} {q : Rl} {σ : Sl} (K : Msk g l σ) (R : RwS f l σ) : Msk g (l ++ [q]) σ := by
  intro s hs
  rw [K s hs]
  have x := R s hs
  unfold rsIs at x
  cases hx : σ s with
  | none => rfl
  | some y =>
    rw [hx] at x
    simp only [] at x
    show nI (mk l y) = nI (mk (l ++ [q]) y)
    unfold mk cX vX
    rw [rlN_app x.1]
theorem q_comesRule (K : Md h m S) (hd : dst S.l) (hi : S.l.length ≤ rws S.s) {q : Rl} (v : vr q) (hn : nofR S.l q.1 = none) : ∃ h' ra nu nr nm fb f' g T, 
    xc XP (d + 5) 149 [.ref m, .int (nI q.1), .int (nI q.2.1), .int (nI q.2.2.1), .int (nI q.2.2.2.1), .int (nI q.2.2.2.2)] h = some (some (.int (bI (trS S.l S.s q).isSome)), h') ∧
    MdO h' m (nI S.sz) (nI S.nx) (nI S.tx.length) ra nu nr (nI S.ms.length) nm ∧ h'[m + 12]? = some (ia 113 fb) ∧ RwL fb S.l ∧ RwS fb S.l S.s ∧ h'[m + 1]? = some (ia 113 f') ∧ h'[m + 4]? = some (ia 16 g) ∧ h'[m + 7]? = some (ia 3 T) ∧
    (∃ F1 F2, h'[m + 10]? = some (ia 48 F1) ∧ h'[m + 11]? = some (ia 48 F2)) ∧ (∀ r, trS S.l S.s q = some r → RwL f' (S.l ++ [q]) ∧ RwS f' (S.l ++ [q]) r.1 ∧ nm = nI r.2.length ∧ NLg h' m r.2) ∧ Dif h h' (CQ m) := by
  have K0 := K
  obtain ⟨-, ⟨ra, nu, nr, nm, M⟩, ⟨f, A, L, R⟩, -, -, ⟨g, G⟩, -, -, ⟨T, T7⟩, -, ⟨F10, F11, M10, M11⟩, ⟨f12, M12⟩⟩ := K
  have h16 := L.1
  have key := loop_run (fun k => xe XP (d + 5) 149 (2, [.ref m, .int (nI q.1), .int (nI q.2.1), .int (nI q.2.2.1), .int (nI q.2.2.2.1), .int (nI q.2.2.2.2), .int (nI k), .null, .null, .null], [], h.set (m + 12) (ia 113 (cpN f12 0 f k)))) 113 (by
    intro k hk
    show xe XP (d + 5) 149 (2, _, _, _) = xe XP (d + 5) 149 (2, _, _, _)
    have M' : MdO (h.set (m + 12) (ia 113 (cpN f12 0 f k))) m (nI S.sz) (nI S.nx) (nI S.tx.length) ra nu nr (nI S.ms.length) nm := M.set _ (by omega)
    have A' : (h.set (m + 12) (ia 113 (cpN f12 0 f k)))[m + 1]? = some (ia 113 f) := by rw [get_ne _ (by omega)]; exact A
    have C' : (h.set (m + 12) (ia 113 (cpN f12 0 f k)))[m + 12]? = some (ia 113 (cpN f12 0 f k)) := get_set M12 _
    have l1 := ra_ld A' k hk
    have w1 := xst_ia C' (by decide) (show k < 113 by omega) (f k)
    have hs := cpN_s f12 0 f k
    rw [Nat.zero_add] at hs
    rw [List.set_set, hs] at w1
    rw [e_X8_comesRule_2]
    simp (disch := first | assumption | omega) only [e_X8_comesRule_3, e_X8_comesRule_4, e_X8_comesRule_5, e_X8_comesRule_6, e_X8_comesRule_7, e_X8_comesRule_8, e_X8_comesRule_9, e_X8_comesRule_10, e_X8_comesRule_11, e_X8_comesRule_12, e_X8_comesRule_13, e_X8_comesRule_14, nI_leI, if_f, M'.f19, M'.f0, Option.bind_some, nI_add, l1, w1]) 113 (Nat.le_refl _)
  have key : xe XP (d + 5) 149 (2, [.ref m, .int (nI q.1), .int (nI q.2.1), .int (nI q.2.2.1), .int (nI q.2.2.2.1), .int (nI q.2.2.2.2), .int (nI 0), .null, .null, .null], [], h.set (m + 12) (ia 113 (cpN f12 0 f 0))) = xe XP (d + 5) 149 (2, [.ref m, .int (nI q.1), .int (nI q.2.1), .int (nI q.2.2.1), .int (nI q.2.2.2.1), .int (nI q.2.2.2.2), .int (nI 113), .null, .null, .null], [], h.set (m + 12) (ia 113 (cpN f12 0 f 113))) := key
  rw [cpN_0, set_self M12] at key
  have cp : ∀ k, k < 113 → cpN f12 0 f 113 k = f k := fun k hk => by have := cpN_in (g := f12) (o := 0) (s := f) (k := 113) (i := k) hk; rw [Nat.zero_add] at this; exact this
  have Lb : RwL (cpN f12 0 f 113) S.l := L.congr (fun k hk => cp k (by omega))
  have Rb : RwS (cpN f12 0 f 113) S.l S.s := R.congr (fun k _ h2 => cp k h2)
  generalize hh1 : h.set (m + 12) (ia 113 (cpN f12 0 f 113)) = h1 at key
  have C1 : h1[m + 12]? = some (ia 113 (cpN f12 0 f 113)) := by rw [← hh1]; exact get_set M12 _
  generalize cpN f12 0 f 113 = fb at hh1 C1 Lb Rb
  have s1 : Same h h1 (m + 12) (m + 13) := by rw [← hh1]; exact (Same.refl _ _ _).set (by omega) (by omega) _
  have M1 : MdO h1 m (nI S.sz) (nI S.nx) (nI S.tx.length) ra nu nr (nI S.ms.length) nm := by rw [← hh1]; exact M.set _ (by omega)
  have A1 : h1[m + 1]? = some (ia 113 f) := by rw [s1.2 _ (by omega)]; exact A
  have G1 : h1[m + 4]? = some (ia 16 g) := by rw [s1.2 _ (by omega)]; exact G
  obtain ⟨h2, g2, e2, G2, Mk2, s2⟩ := q_laysMasks (d := d) M1 A1 L R G1
  have M2 : MdO h2 m (nI S.sz) (nI S.nx) (nI S.tx.length) ra nu nr (nI S.ms.length) nm := by unfold MdO; rw [s2.2 _ (by omega)]; exact M1
  obtain ⟨h3, e3, M3, s3⟩ := M2.w16 (nI 0)
  have c1 := M1.k
  have c3 := M3.k
  have A3 : h3[m + 1]? = some (ia 113 f) := by rw [s3.2 _ (by omega), s2.2 _ (by omega)]; exact A1
  have G3 : h3[m + 4]? = some (ia 16 g2) := by rw [s3.2 _ (by omega)]; exact G2
  have E3 : ∀ i, i ≠ m → i ≠ m + 4 → i ≠ m + 12 → h3[i]? = h[i]? := fun i q1 q2 q3 => by rw [s3.2 _ (by omega), s2.2 _ (by omega), s1.2 _ (by omega)]
  have B3 : h3[m + 12]? = some (ia 113 fb) := by rw [s3.2 _ (by omega), s2.2 _ (by omega)]; exact C1
  have D3 : Dif h h3 (CQ m) := ⟨by rw [s3.1, s2.1, s1.1], fun i hi => E3 i (fun e => hi (by unfold CQ; omega)) (fun e => hi (by unfold CQ; omega)) (fun e => hi (by unfold CQ; omega))⟩
  have l0 := ra_ld A3 0 (by omega)
  rw [L.2.2.1] at l0
  rw [n_X8_comesRule]
  have pre : xe XP (d + 5) 149 (0, [.ref m, .int (nI q.1), .int (nI q.2.1), .int (nI q.2.2.1), .int (nI q.2.2.2.1), .int (nI q.2.2.2.2), .null, .null, .null, .null], [], h) = xe XP (d + 5) 149 (25, [.ref m, .int (nI q.1), .int (nI q.2.1), .int (nI q.2.2.1), .int (nI q.2.2.2.1), .int (nI q.2.2.2.2), .int (nI 113), .null, .null, .null], [.int (nI 16), .int (nI S.l.length)], h3) := by
    simp only [e_X8_comesRule_0, e_X8_comesRule_1, key]
    simp (disch := first | assumption | omega) only [e_X8_comesRule_2, e_X8_comesRule_3, e_X8_comesRule_4, e_X8_comesRule_15, e_X8_comesRule_16, e_X8_comesRule_17, e_X8_comesRule_18, e_X8_comesRule_19, e_X8_comesRule_20, e_X8_comesRule_21, e_X8_comesRule_22, e_X8_comesRule_23, e_X8_comesRule_24, nI_leI, if_t, e2, xbk_v, e3, Option.bind_some, M3.f0, l0]
  rw [pre]
  have hpos := rwR_pos v
  have h6 : rwR q ≤ 6 := rwF_le 6 _ _
  by_cases g16 : S.l.length = 16
  · have ht : trS S.l S.s q = none := by unfold trS; rw [if_neg (by omega)]
    rw [ht]
    refine ⟨h3, ra, nu, nr, nI 0, fb, f, g2, T, ?_, M3, B3, Lb, Rb, A3, G3, by rw [E3 _ (by omega) (by omega) (by omega)]; exact T7, ⟨F10, F11, by rw [E3 _ (by omega) (by omega) (by omega)]; exact M10, by rw [E3 _ (by omega) (by omega) (by omega)]; exact M11⟩, fun r hr => (by cases hr), D3⟩
    simp (disch := first | assumption | omega) only [e_X8_comesRule_25, e_X8_comesRule_28, e_X8_comesRule_29, e_X8_comesRule_30, e_X8_comesRule_31, e_X8_comesRule_74, e_X8_comesRule_75, nI_leI, if_t, if_true, rk_0]
    rfl
  · obtain ⟨h4, f4, e4, A4, L4, o4, s4⟩ := q_comes (d := d + 4) A3 L v (by omega)
    have M4 : MdO h4 m (nI S.sz) (nI S.nx) (nI S.tx.length) ra nu nr (nI S.ms.length) (nI 0) := by unfold MdO; rw [s4.2 _ (by omega)]; exact M3
    have c4 := M4.k
    have G4 : h4[m + 4]? = some (ia 16 g2) := by rw [s4.2 _ (by omega)]; exact G3
    have R4 : RwS f4 (S.l ++ [q]) S.s := R.app o4
    have Mk4 : Msk g2 (S.l ++ [q]) S.s := Mk2.app R
    have hlen : (S.l ++ [q]).length = S.l.length + 1 := by simp
    have l4 := ra_ld A4 0 (by omega)
    rw [L4.2.2.1, hlen] at l4
    have hq : rlN (S.l ++ [q]) S.l.length = q := rlN_last
    have q5 := q_rowsOfM (d := d + 3) A4 L4 (r := S.l.length) (by omega)
    rw [hq] at q5
    have q6 := q_emptySlots (d := d + 4) M4 A4 L4 R4
    have he := em_rws S.s
    have D4 : Dif h h4 (CQ m) := D3.trans (s4.dif (fun i h1 h2 => by unfold CQ; omega))
    have B4 : h4[m + 12]? = some (ia 113 fb) := by rw [s4.2 _ (by omega)]; exact B3
    have T4 : h4[m + 7]? = some (ia 3 T) := by rw [s4.2 _ (by omega), E3 _ (by omega) (by omega) (by omega)]; exact T7
    have Q10 : h4[m + 10]? = some (ia 48 F10) := by rw [s4.2 _ (by omega), E3 _ (by omega) (by omega) (by omega)]; exact M10
    have Q11 : h4[m + 11]? = some (ia 48 F11) := by rw [s4.2 _ (by omega), E3 _ (by omega) (by omega) (by omega)]; exact M11
    have pre2 : xe XP (d + 5) 149 (25, [.ref m, .int (nI q.1), .int (nI q.2.1), .int (nI q.2.2.1), .int (nI q.2.2.2.1), .int (nI q.2.2.2.2), .int (nI 113), .null, .null, .null], [.int (nI 16), .int (nI S.l.length)], h3) = xe XP (d + 5) 149 (55, [.ref m, .int (nI q.1), .int (nI q.2.1), .int (nI q.2.2.1), .int (nI q.2.2.2.1), .int (nI q.2.2.2.2), .int (nI 1), .int (nI S.l.length), .int (nI (rwR q)), .null], [.int (nI (ct (emA S.s) 16)), .int (nI (rwR q))], h4) := by
      simp (disch := first | assumption | omega) only [e_X8_comesRule_25, e_X8_comesRule_26, e_X8_comesRule_27, e_X8_comesRule_29, e_X8_comesRule_30, e_X8_comesRule_31, e_X8_comesRule_32, e_X8_comesRule_33, e_X8_comesRule_34, e_X8_comesRule_35, e_X8_comesRule_36, e_X8_comesRule_37, e_X8_comesRule_38, e_X8_comesRule_39, e_X8_comesRule_40, e_X8_comesRule_41, e_X8_comesRule_42, e_X8_comesRule_43, e_X8_comesRule_44, e_X8_comesRule_45, e_X8_comesRule_46, e_X8_comesRule_47, e_X8_comesRule_48, e_X8_comesRule_49, e_X8_comesRule_50, e_X8_comesRule_51, e_X8_comesRule_52, e_X8_comesRule_53, e_X8_comesRule_54, nI_leI, if_f, show ¬ nI 1 = nI 0 by decide, if_false, M3.f0, M4.f0, Option.bind_some, e4, xbk_v, xbk_i, l4, pk_sub, Nat.add_sub_cancel, q5, q6]
    rw [pre2]
    by_cases gr : rws S.s + rwR q ≤ 16
    · have ht : trS S.l S.s q = cmS (S.l ++ [q]) S.l.length (rwR q) 0 S.s [] := by unfold trS; rw [if_pos gr]
      rw [ht]
      obtain ⟨h5, T5, e5, hT5, C5, D5⟩ := cr_loop (d := d) (l := S.l ++ [q]) (dst_app hd hn) (r := S.l.length) (by omega) (a1 := .int (nI q.1)) (a2 := .int (nI q.2.1)) (a3 := .int (nI q.2.2.1)) (a4 := .int (nI q.2.2.2.1)) (a5 := .int (nI q.2.2.2.2)) (rwR q) 0 S.s [] h4 T (by rw [hq]; omega) (by simp) ⟨M4, f4, g2, A4, L4, R4, G4, Mk4⟩ T4 ⟨by simp, F10, F11, Q10, Q11, fun j x hj => (by simp at hj)⟩
      rw [hq] at e5
      have D5' : Dif h h5 (CQ m) := D4.trans (D5.weak (fun i hi => by unfold CT at hi; unfold CQ; omega))
      have B5 : h5[m + 12]? = some (ia 113 fb) := by rw [D5.2 _ (by unfold CT; omega)]; exact B4
      have run : xe XP (d + 5) 149 (55, [.ref m, .int (nI q.1), .int (nI q.2.1), .int (nI q.2.2.1), .int (nI q.2.2.2.1), .int (nI q.2.2.2.2), .int (nI 1), .int (nI S.l.length), .int (nI (rwR q)), .null], [.int (nI (ct (emA S.s) 16)), .int (nI (rwR q))], h4) = some (some (.int (bI (cmS (S.l ++ [q]) S.l.length (rwR q) 0 S.s []).isSome)), h5) := by
        simp (disch := first | assumption | omega) only [e_X8_comesRule_55, e_X8_comesRule_56, e_X8_comesRule_57, e_X8_comesRule_59, e_X8_comesRule_60, e_X8_comesRule_61, nI_ltI, if_f, e5]
      rw [run]
      cases ho : cmS (S.l ++ [q]) S.l.length (rwR q) 0 S.s [] with
      | some x =>
        rw [ho] at C5
        obtain ⟨⟨M5, f5, g5, A5, L5, R5, G5, Mk5⟩, N5⟩ := C5
        have N50 := N5
        obtain ⟨-, F1, F2, Z1, Z2, -⟩ := N5
        exact ⟨h5, ra, nu, nr, _, fb, f5, g5, T5, rfl, M5, B5, Lb, Rb, A5, G5, hT5, ⟨F1, F2, Z1, Z2⟩, fun r hr => (by cases hr; exact ⟨L5, R5, rfl, N50⟩), D5'⟩
      | none =>
        rw [ho] at C5
        obtain ⟨nm5, σ5, ms5, ⟨M5, f5, g5, A5, L5, R5, G5, Mk5⟩, N5⟩ := C5
        obtain ⟨-, F1, F2, Z1, Z2, -⟩ := N5
        exact ⟨h5, ra, nu, nr, _, fb, f5, g5, T5, rfl, M5, B5, Lb, Rb, A5, G5, hT5, ⟨F1, F2, Z1, Z2⟩, fun r hr => (by cases hr), D5'⟩
    · have ht : trS S.l S.s q = none := by unfold trS; rw [if_neg gr]
      rw [ht]
      refine ⟨h4, ra, nu, nr, nI 0, fb, f4, g2, T, ?_, M4, B4, Lb, Rb, A4, G4, T4, ⟨F10, F11, Q10, Q11⟩, fun r hr => (by cases hr), D4⟩
      simp (disch := first | assumption | omega) only [e_X8_comesRule_55, e_X8_comesRule_58, e_X8_comesRule_59, e_X8_comesRule_60, e_X8_comesRule_61, e_X8_comesRule_62, e_X8_comesRule_63, e_X8_comesRule_64, e_X8_comesRule_65, e_X8_comesRule_66, e_X8_comesRule_74, e_X8_comesRule_75, nI_ltI, nI_leI, if_t, if_f, if_true, rk_0]
      rfl
end Md27R
