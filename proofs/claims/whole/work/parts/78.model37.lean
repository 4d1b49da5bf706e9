/-! THE MODEL: fault, lay -/
theorem xst_ba {h : XH} {t n : Nat} {f : Nat → Int32} (e : h[t]? = some (ba n f)) (hn : n < 2 ^ 31) {k : Nat} (hk : k < n) : xst h t 1 (nI k) (nI 0) = some (h.set t (ba n (upd f k (nI 0)))) := by
  unfold xst xar
  rw [e]
  simp only [if_true, Option.bind_some]
  rw [if_pos (by rw [xin_nI hk hn]; decide), nI_clamp (by omega)]
theorem rdS_lt {tx : List Nat} {j : Nat} : ∀ m a l, (rdS tx m a l).1 = some j → j < tx.length := by
  intro m
  induction m with
  | zero => intro a l q; cases q
  | succ m ih =>
    intro a l q
    unfold rdS at q
    split at q
    · cases q
    · split at q
      · cases q; omega
      · split at q
        · cases q; omega
        · exact ih _ _ q
section Md31R
variable {h : XH} {m : Nat} {d : Nat} {tx : List Nat} {i : Nat} {cm ca nu nr mm nm : Int32} {l : List Rl} {S : CS}
theorem fa_loop : ∀ (n a : Nat) (l : List Rl) (h : XH) (w1 : Value) (nu : Int32), l.length + n = 17 → 12 * l.length ≤ a → a ≤ tx.length → FQ h m tx cm ca mm nm l a nu →
    ∃ h', xe XP (d + 3) 137 (21, [.ref m, w1], [], h) = some (some (.int (oI (rdS tx n a l).1)), h') ∧ FX h' m tx cm ca mm nm ∧ Dif h h' (RD m) ∧ ((rdS tx n a l).1 = none → ∃ i nu, FQ h' m tx cm ca mm nm (rdS tx n a l).2 i nu) := by
  intro n
  induction n with
  | zero =>
    intro a l h w1 nu hn h12 ha Q
    have := Q.2.1.1
    omega
  | succ n ih =>
    intro a l h w1 nu hn h12 ha Q
    have ht := Q.2.1.1
    have M := Q.1
    have c0 := M.k
    unfold rdS
    by_cases g : tx.length ≤ a
    · rw [if_pos g]
      refine ⟨h, ?_, Q.x, Dif.refl _ _, fun _ => ⟨a, nu, Q⟩⟩
      simp (disch := first | assumption | omega) only [e_X8_fault_21, e_X8_fault_22, e_X8_fault_23, e_X8_fault_24, e_X8_fault_25, e_X8_fault_35, e_X8_fault_36, M.f8, M.f7, Option.bind_some, nI_leI, if_t]
      rfl
    · rw [if_neg g]
      have hl : ∀ x, rulS tx a = some x → l.length < 16 := by
        intro x hx
        obtain ⟨q, z⟩ := x
        have := rulS_of hx
        omega
      obtain ⟨h1, e1, F1, D1, R1⟩ := q_readsRule (d := d) Q (by omega) hl
      cases hr : rulS tx a with
      | none =>
        rw [hr] at e1
        refine ⟨h1, ?_, F1, D1, fun hh => (by cases hh)⟩
        simp (disch := first | assumption | omega) only [e_X8_fault_21, e_X8_fault_22, e_X8_fault_23, e_X8_fault_24, e_X8_fault_25, e_X8_fault_26, e_X8_fault_27, e_X8_fault_28, e_X8_fault_29, e_X8_fault_30, e_X8_fault_31, e_X8_fault_32, e_X8_fault_33, M.f8, M.f7, Option.bind_some, nI_leI, if_f, e1, xbk_i, okR, bI_f, not_true, if_false]
        rfl
      | some x =>
        obtain ⟨q, z⟩ := x
        rw [hr] at e1 R1
        have hz := rulS_of hr
        simp only []
        cases hN : nofR l q.1 with
        | some y =>
          have ho : okR l (some (q, z)) = false := by show (nofR l q.1).isNone = false; rw [hN]; rfl
          rw [ho] at e1
          rw [if_pos (by rfl)]
          refine ⟨h1, ?_, F1, D1, fun hh => (by cases hh)⟩
          simp (disch := first | assumption | omega) only [e_X8_fault_21, e_X8_fault_22, e_X8_fault_23, e_X8_fault_24, e_X8_fault_25, e_X8_fault_26, e_X8_fault_27, e_X8_fault_28, e_X8_fault_29, e_X8_fault_30, e_X8_fault_31, e_X8_fault_32, e_X8_fault_33, M.f8, M.f7, Option.bind_some, nI_leI, if_f, e1, xbk_i, bI_f, not_true, if_false]
          rfl
        | none =>
          have ho : okR l (some (q, z)) = true := by show (nofR l q.1).isNone = true; rw [hN]; rfl
          rw [ho] at e1
          rw [if_neg (by decide)]
          obtain ⟨nu1, Q1⟩ := R1 _ rfl ho
          have hlen : (l ++ [q]).length = l.length + 1 := by simp
          obtain ⟨h2, e2, F2, D2, R2⟩ := ih z (l ++ [q]) h1 (.int (nI a)) nu1 (by omega) (by omega) (by omega) Q1
          refine ⟨h2, ?_, F2, D1.trans D2, R2⟩
          rw [e_X8_fault_21]
          simp (disch := first | assumption | omega) only [e_X8_fault_22, e_X8_fault_23, e_X8_fault_24, e_X8_fault_25, e_X8_fault_26, e_X8_fault_27, e_X8_fault_28, e_X8_fault_29, e_X8_fault_30, e_X8_fault_31, e_X8_fault_34, M.f8, M.f7, Option.bind_some, nI_leI, if_f, e1, xbk_i, bI_0, Bool.true_eq_false, not_false_eq_true, if_true, e2]
theorem Md.read {h' : XH} {nm : Int32} (K : Md h m S) (F : FX h' m S.tx (nI S.sz) (nI S.nx) (nI S.ms.length) nm) (D : Dif h h' (RD m)) : Md h' m S := by
  obtain ⟨b0, -, ⟨f, A, L, R⟩, ⟨c, C, hC⟩, -, ⟨g, G⟩, ⟨t, X, hX⟩, -, ⟨T, T7⟩, ⟨F8, F9, M8, M9, hM⟩, ⟨F10, F11, M10, M11⟩, ⟨f12, M12⟩⟩ := K
  obtain ⟨⟨ra, nu, nr, M⟩, F3, Bo⟩ := F
  have E : ∀ i, i ≠ m → i ≠ m + 3 → i ≠ m + 6 → h'[i]? = h[i]? := fun i q1 q2 q3 => D.2 i (by unfold RD; omega)
  exact ⟨b0, ⟨ra, nu, nr, nm, M⟩, ⟨f, by rw [E _ (by omega) (by omega) (by omega)]; exact A, L, R⟩, ⟨c, by rw [E _ (by omega) (by omega) (by omega)]; exact C, hC⟩, F3, ⟨g, by rw [E _ (by omega) (by omega) (by omega)]; exact G⟩, ⟨t, by rw [E _ (by omega) (by omega) (by omega)]; exact X, hX⟩, Bo, ⟨T, by rw [E _ (by omega) (by omega) (by omega)]; exact T7⟩, ⟨F8, F9, by rw [E _ (by omega) (by omega) (by omega)]; exact M8, by rw [E _ (by omega) (by omega) (by omega)]; exact M9, hM⟩, ⟨F10, F11, by rw [E _ (by omega) (by omega) (by omega)]; exact M10, by rw [E _ (by omega) (by omega) (by omega)]; exact M11⟩, ⟨f12, by rw [E _ (by omega) (by omega) (by omega)]; exact M12⟩⟩
theorem q_faultX (K : Md h m S) : ∃ h' nm, xc XP (d + 3) 137 [.ref m] h = some (some (.int (aFault S)), h') ∧ FX h' m S.tx (nI S.sz) (nI S.nx) (nI S.ms.length) nm ∧ Dif h h' (RD m) ∧ ((rdS S.tx 17 0 []).1 = none → ∃ i nu, FQ h' m S.tx (nI S.sz) (nI S.nx) (nI S.ms.length) nm (rdS S.tx 17 0 []).2 i nu) := by
  obtain ⟨⟨b1, b2, b3, b4, b5⟩, ⟨ra, nu, nr, nm, M⟩, -, -, ⟨f3, F3⟩, -, ⟨t, X, hX⟩, ⟨b, Bo⟩, -⟩ := K
  have c0 := M.k
  obtain ⟨h1, f1, e1, A1, L1, R1, s1⟩ := q_clears (d := d + 1) F3
  have M1 : MdO h1 m (nI S.sz) (nI S.nx) (nI S.tx.length) ra nu nr (nI S.ms.length) nm := by unfold MdO; rw [s1.2 _ (by omega)]; exact M
  obtain ⟨h2, e2, M2, s2⟩ := M1.w10 (nI 0)
  have Bo2 : h2[m + 6]? = some (ba 100 b) := by rw [s2.2 _ (by omega), s1.2 _ (by omega)]; exact Bo
  have key := loop_run (fun k => xe XP (d + 3) 137 (8, [.ref m, .int (nI k)], [], h2.set (m + 6) (ba 100 (cpN b 0 (fun _ => nI 0) k)))) 100 (by
    intro k hk
    show xe XP (d + 3) 137 (8, _, _, _) = xe XP (d + 3) 137 (8, _, _, _)
    have M' : MdO (h2.set (m + 6) (ba 100 (cpN b 0 (fun _ => nI 0) k))) m (nI S.sz) (nI S.nx) (nI S.tx.length) ra nu (nI 0) (nI S.ms.length) nm := M2.set _ (by omega)
    have C' : (h2.set (m + 6) (ba 100 (cpN b 0 (fun _ => nI 0) k)))[m + 6]? = some (ba 100 (cpN b 0 (fun _ => nI 0) k)) := get_set Bo2 _
    have w1 := xst_ba C' (by decide) hk
    have hs := cpN_s b 0 (fun _ => nI 0) k
    rw [Nat.zero_add] at hs
    rw [List.set_set, hs] at w1
    rw [e_X8_fault_8]
    simp (disch := first | assumption | omega) only [e_X8_fault_9, e_X8_fault_10, e_X8_fault_11, e_X8_fault_12, e_X8_fault_13, e_X8_fault_14, e_X8_fault_15, e_X8_fault_16, e_X8_fault_17, nI_leI, if_f, M'.f11, Option.bind_some, w1, nI_add]) 100 (Nat.le_refl _)
  have key : xe XP (d + 3) 137 (8, [.ref m, .int (nI 0)], [], h2.set (m + 6) (ba 100 (cpN b 0 (fun _ => nI 0) 0))) = xe XP (d + 3) 137 (8, [.ref m, .int (nI 100)], [], h2.set (m + 6) (ba 100 (cpN b 0 (fun _ => nI 0) 100))) := key
  rw [cpN_0, set_self Bo2] at key
  generalize hh3 : h2.set (m + 6) (ba 100 (cpN b 0 (fun _ => nI 0) 100)) = h3 at key
  have B3 : h3[m + 6]? = some (ba 100 (cpN b 0 (fun _ => nI 0) 100)) := by rw [← hh3]; exact get_set Bo2 _
  have s3 : Same h2 h3 (m + 6) (m + 7) := by rw [← hh3]; exact (Same.refl _ _ _).set (by omega) (by omega) _
  have M3 : MdO h3 m (nI S.sz) (nI S.nx) (nI S.tx.length) ra nu (nI 0) (nI S.ms.length) nm := by rw [← hh3]; exact M2.set _ (by omega)
  obtain ⟨h4, e4, M4, s4⟩ := M3.w8 (nI 0)
  have E4 : ∀ j, j ≠ m → j ≠ m + 3 → j ≠ m + 6 → h4[j]? = h[j]? := fun j q1 q2 q3 => by rw [s4.2 _ (by omega), s3.2 _ (by omega), s2.2 _ (by omega), s1.2 _ (by omega)]
  have D4 : Dif h h4 (RD m) := ⟨by rw [s4.1, s3.1, s2.1, s1.1], fun j hj => E4 j (fun q => hj (by unfold RD; omega)) (fun q => hj (by unfold RD; omega)) (fun q => hj (by unfold RD; omega))⟩
  have Q4 : FQ h4 m S.tx (nI S.sz) (nI S.nx) (nI S.ms.length) nm [] 0 nu := ⟨M4, ⟨b3, b4, t, by rw [E4 _ (by omega) (by omega) (by omega)]; exact X, hX⟩, ⟨f1, by rw [s4.2 _ (by omega), s3.2 _ (by omega), s2.2 _ (by omega)]; exact A1, L1, R1⟩, _, by rw [s4.2 _ (by omega)]; exact B3, fun k hk => (by have := cpN_in (g := b) (o := 0) (s := fun _ => nI 0) (k := 100) (i := k) hk; rw [Nat.zero_add] at this; exact this)⟩
  obtain ⟨h5, e5, F5, D5, R5⟩ := fa_loop (d := d) 17 0 [] h4 (.int (nI 100)) nu rfl (by simp) (by omega) Q4
  refine ⟨h5, nm, ?_, F5, D4.trans D5, R5⟩
  rw [n_X8_fault]
  simp (disch := first | assumption | omega) only [e_X8_fault_0, e_X8_fault_1, e_X8_fault_2, e_X8_fault_3, e_X8_fault_4, e_X8_fault_5, e_X8_fault_6, e_X8_fault_7, M.f4, Option.bind_some, e1, xbk_v, e2, key]
  simp (disch := first | assumption | omega) only [e_X8_fault_8, e_X8_fault_9, e_X8_fault_10, e_X8_fault_18, e_X8_fault_19, e_X8_fault_20, nI_leI, if_t, e4, Option.bind_some, e5]
  rfl
theorem RD.in {j : Nat} (h : RD m j) : m ≤ j ∧ j < m + 13 := by unfold RD at h; omega
theorem q_faultM (K : Md h m S) : ∃ h', xc XP (d + 14) 137 [.ref m] h = some (some (.int (aFault S)), h') ∧ Md h' m S ∧ Same h h' m (m + 13) := by
  obtain ⟨h1, nm, e1, F1, D1, -⟩ := q_faultX (d := d + 11) K
  exact ⟨h1, e1, K.read F1 D1, D1.same (fun i hi => hi.in)⟩
theorem q_layM (K : Md h m S) : ∃ h', xc XP (d + 14) 138 [.ref m] h = some (some (.int (aLay S).1), h') ∧ Md h' m (aLay S).2 ∧ Same h h' m (m + 13) := by
  obtain ⟨h1, nm, e1, F1, D1, R1⟩ := q_faultX (d := d + 10) K
  have K1 := K.read F1 D1
  have c0 : xcls h (.ref m) = some 8 := by obtain ⟨-, ⟨ra, nu, nr, nm, M⟩, -⟩ := K; exact M.k
  have s1 := D1.same (fun i hi => RD.in hi)
  have hR := rdS_v K.1.2.2.1 17 0 [] (by simp) (by intro i j hi; simp at hi) (by simp) (by omega)
  have hlt : ∀ j, (rdS S.tx 17 0 []).1 = some j → j < S.tx.length := fun j => rdS_lt (tx := S.tx) (j := j) 17 0 []
  have h200 := K.1.2.2.1
  unfold aFault at e1
  unfold aLay
  rw [n_X8_lay]
  generalize rdS S.tx 17 0 [] = rd at *
  obtain ⟨fo, l'⟩ := rd
  have hl6 := allR_le l' l'.length
  have hl6 : allR l' ≤ 6 * l'.length := hl6
  have hl16 : l'.length ≤ 16 := hR.2.2
  cases fo with
  | some j =>
    have hj := nI_n4 (n := j) (by have := hlt j rfl; omega)
    refine ⟨h1, ?_, K1, s1⟩
    simp (disch := first | assumption | omega) only [e_X8_lay_0, e_X8_lay_1, e_X8_lay_2, e_X8_lay_3, e_X8_lay_8, e_X8_lay_9, e1, xbk_i, oI_some, hj, not_false_eq_true, if_true]
  | none =>
    obtain ⟨i, nu, Q⟩ := R1 rfl
    have M1 := Q.1
    by_cases hA : allR l' ≤ 16
    · rw [if_pos hA]
      obtain ⟨-, -, ⟨f3, a1, a2, a3⟩, -⟩ := Q
      have K10 := K1
      obtain ⟨⟨b1, b2, b3, b4, b5⟩, -, ⟨f, A, L, R⟩, ⟨c, C, hC⟩, -, ⟨g, G⟩, ⟨t, X, hX⟩, ⟨b, Bo⟩, ⟨T, T7⟩, ⟨F8, F9, M8, M9, hM⟩, ⟨F10, F11, M10, M11⟩, ⟨f12, M12⟩⟩ := K1
      have key := loop_run (fun k => xe XP (d + 14) 138 (12, [.ref m, .int (nI k)], [], h1.set (m + 1) (ia 113 (cpN f 0 f3 k)))) 113 (by
        intro k hk
        show xe XP (d + 14) 138 (12, _, _, _) = xe XP (d + 14) 138 (12, _, _, _)
        have M' : MdO (h1.set (m + 1) (ia 113 (cpN f 0 f3 k))) m (nI S.sz) (nI S.nx) (nI S.tx.length) (nI i) nu (nI (allR l')) (nI S.ms.length) nm := M1.set _ (by omega)
        have B' : (h1.set (m + 1) (ia 113 (cpN f 0 f3 k)))[m + 3]? = some (ia 113 f3) := by rw [get_ne _ (by omega)]; exact a1
        have C' : (h1.set (m + 1) (ia 113 (cpN f 0 f3 k)))[m + 1]? = some (ia 113 (cpN f 0 f3 k)) := get_set A _
        have l1 := xld_ia B' (by decide) hk
        have w1 := xst_ia C' (by decide) (show k < 113 by omega) (f3 k)
        have hs := cpN_s f 0 f3 k
        rw [Nat.zero_add] at hs
        rw [List.set_set, hs] at w1
        rw [e_X8_lay_12]
        simp (disch := first | assumption | omega) only [e_X8_lay_13, e_X8_lay_14, e_X8_lay_15, e_X8_lay_16, e_X8_lay_17, e_X8_lay_18, e_X8_lay_19, e_X8_lay_20, e_X8_lay_21, e_X8_lay_22, e_X8_lay_23, e_X8_lay_24, nI_leI, if_f, M'.f4, M'.f0, Option.bind_some, nI_add, l1, w1]) 113 (Nat.le_refl _)
      have key : xe XP (d + 14) 138 (12, [.ref m, .int (nI 0)], [], h1.set (m + 1) (ia 113 (cpN f 0 f3 0))) = xe XP (d + 14) 138 (12, [.ref m, .int (nI 113)], [], h1.set (m + 1) (ia 113 (cpN f 0 f3 113))) := key
      rw [cpN_0, set_self A] at key
      have cp : ∀ k, k < 113 → cpN f 0 f3 113 k = f3 k := fun k hk => by have := cpN_in (g := f) (o := 0) (s := f3) (k := 113) (i := k) hk; rw [Nat.zero_add] at this; exact this
      have L2 : RwL (cpN f 0 f3 113) l' := a2.congr (fun k hk => cp k (by omega))
      generalize hh2 : h1.set (m + 1) (ia 113 (cpN f 0 f3 113)) = h2 at key
      have A2 : h2[m + 1]? = some (ia 113 (cpN f 0 f3 113)) := by rw [← hh2]; exact get_set A _
      have s2 : Same h1 h2 (m + 1) (m + 2) := by rw [← hh2]; exact (Same.refl _ _ _).set (by omega) (by omega) _
      have M2 : MdO h2 m (nI S.sz) (nI S.nx) (nI S.tx.length) (nI i) nu (nI (allR l')) (nI S.ms.length) nm := by rw [← hh2]; exact M1.set _ (by omega)
      have c2 := M2.k
      have hPK := q_packsM (d := d + 11) A2 L2 hR.2.1 hA
      generalize pk l' = P at hPK
      obtain ⟨h3, f4, e3, A3, L3, R3, s3⟩ := hPK
      have M3 : MdO h3 m (nI S.sz) (nI S.nx) (nI S.tx.length) (nI i) nu (nI (allR l')) (nI S.ms.length) nm := by unfold MdO; rw [s3.2 _ (by omega)]; exact M2
      obtain ⟨h4, e4, M4, s4⟩ := M3.w2 (nI 0)
      obtain ⟨h5, e5, M5, s5⟩ := M4.w13 (nI 0)
      have A5 : h5[m + 1]? = some (ia 113 f4) := by rw [s5.2 _ (by omega), s4.2 _ (by omega)]; exact A3
      have l5 := ra_ld A5 0 (by omega)
      rw [L3.2.2.1] at l5
      have E5 : ∀ j, j ≠ m → j ≠ m + 1 → h5[j]? = h1[j]? := fun j q1 q2 => by rw [s5.2 _ (by omega), s4.2 _ (by omega), s3.2 _ (by omega), s2.2 _ (by omega)]
      refine ⟨h5, ?_, ⟨⟨b1, Nat.zero_le _, b3, b4, Nat.zero_le _⟩, ⟨_, _, _, _, M5⟩, ⟨f4, A5, L3, R3⟩, ⟨c, by rw [E5 _ (by omega) (by omega)]; exact C, fun j hj => absurd hj (Nat.not_lt_zero j)⟩, ⟨f3, by rw [E5 _ (by omega) (by omega)]; exact a1⟩, ⟨g, by rw [E5 _ (by omega) (by omega)]; exact G⟩, ⟨t, by rw [E5 _ (by omega) (by omega)]; exact X, hX⟩, ⟨b, by rw [E5 _ (by omega) (by omega)]; exact Bo⟩, ⟨T, by rw [E5 _ (by omega) (by omega)]; exact T7⟩, ⟨F8, F9, by rw [E5 _ (by omega) (by omega)]; exact M8, by rw [E5 _ (by omega) (by omega)]; exact M9, fun j q hj => (by cases hj)⟩, ⟨F10, F11, by rw [E5 _ (by omega) (by omega)]; exact M10, by rw [E5 _ (by omega) (by omega)]; exact M11⟩, ⟨f12, by rw [E5 _ (by omega) (by omega)]; exact M12⟩⟩, (((s1.trans (s2.weak (by omega) (by omega))).trans (s3.weak (by omega) (by omega))).trans (s4.weak (by omega) (by omega))).trans (s5.weak (by omega) (by omega))⟩
      simp (disch := first | assumption | omega) only [e_X8_lay_0, e_X8_lay_1, e_X8_lay_2, e_X8_lay_3, e_X8_lay_4, e_X8_lay_5, e_X8_lay_6, e_X8_lay_7, e_X8_lay_8, e_X8_lay_9, e_X8_lay_10, e_X8_lay_11, e1, xbk_i, oI_none, not_true, if_false, M1.f10, Option.bind_some, nI_leI, if_t, key]
      simp (disch := first | assumption | omega) only [e_X8_lay_12, e_X8_lay_13, e_X8_lay_14, e_X8_lay_25, e_X8_lay_26, e_X8_lay_27, e_X8_lay_28, e_X8_lay_29, e_X8_lay_30, e_X8_lay_31, e_X8_lay_32, e_X8_lay_33, e_X8_lay_34, e_X8_lay_35, e_X8_lay_36, e_X8_lay_37, e_X8_lay_38, nI_leI, if_t, M2.f0, Option.bind_some, e3, xbk_v, e4, e5, M5.f0, l5]
    · rw [if_neg hA]
      refine ⟨h1, ?_, K1, s1⟩
      simp (disch := first | assumption | omega) only [e_X8_lay_0, e_X8_lay_1, e_X8_lay_2, e_X8_lay_3, e_X8_lay_4, e_X8_lay_5, e_X8_lay_6, e_X8_lay_7, e_X8_lay_8, e_X8_lay_9, e1, xbk_i, oI_none, not_true, if_false, M1.f10, Option.bind_some, nI_leI, if_f]
end Md31R
