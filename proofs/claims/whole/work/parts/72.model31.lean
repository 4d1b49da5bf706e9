/-! THE MODEL: purge -/
section Md25R
variable {h : XH} {m : Nat} {S : CS} {d : Nat}
theorem pur_loop {c : Nat → Bool} {n0 : Nat} (h16 : n0 ≤ 16) : ∀ (i : Nat) (h : XH) (S : CS) (n : Nat), i ≤ 16 → Md h m S → (i ≤ n0 → i ≤ S.l.length) → (n0 < i → n0 ≤ S.l.length) →
    ∃ h', xe XP (d + 14) 157 (32, [.ref m, .int (nI (stN c n0)), .int (nI n), .int (nI i + (-1))], [], h) = some (some (.int (nI (n + ct (fun j => decide (j < n0) && c j) i))), h') ∧ Md h' m (mkS S.tx (prgC (fun j => decide (j < n0) && c j) i S.l S.s).1 (prgC (fun j => decide (j < n0) && c j) i S.l S.s).2 S.ms S.nx S.sz S.pb) ∧ Same h h' (m + 1) (m + 2) := by
  have hst := stN_lt (c := c) (e := 16) n0 h16
  intro i
  induction i with
  | zero =>
    intro h S n _ K _ _
    refine ⟨h, ?_, K, Same.refl _ _ _⟩
    have e0 : nI 0 + (-1) = (-1 : Int32) := by decide
    rw [e0]
    simp only [e_X8_purge_32, e_X8_purge_33, e_X8_purge_47, e_X8_purge_48, m1_lt0, if_true]
    rfl
  | succ i ih =>
    intro h S n hi K h1 h2
    have K0 := K
    obtain ⟨-, ⟨ra, nu, nr, nm, M⟩, ⟨f, A, L, R⟩, -⟩ := K
    have c0 := M.k
    rw [pk_m1]
    have hb := stN_bit (c := c) i n0
    rw [Nat.testBit_eq_decide_div_mod_eq] at hb
    have hm2 : stN c n0 / 2 ^ i % 2 < 2 := Nat.mod_lt _ (by decide)
    have hct : ct (fun j => decide (j < n0) && c j) (i + 1) = ct (fun j => decide (j < n0) && c j) i + (if (decide (i < n0) && c i) = true then 1 else 0) := rfl
    have hpr : prgC (fun j => decide (j < n0) && c j) (i + 1) S.l S.s = if (decide (i < n0) && c i) = true then prgC (fun j => decide (j < n0) && c j) i (S.l.eraseIdx i) (slDel S.s i) else prgC (fun j => decide (j < n0) && c j) i S.l S.s := rfl
    rw [hct, hpr, e_X8_purge_32]
    cases g : (decide (i < n0) && c i) with
    | true =>
      rw [g] at hb
      have hb : stN c n0 / 2 ^ i % 2 = 1 := of_decide_eq_true hb
      have hlt : i < n0 := by
        simp only [Bool.and_eq_true, decide_eq_true_eq] at g
        exact g.1
      have hil : i < S.l.length := by have := h1 (by omega); omega
      obtain ⟨h1', e1, K1, s1⟩ := q_goesS (d := d + 13) K0 (r := i) hil
      have hlen : (S.l.eraseIdx i).length = S.l.length - 1 := by rw [List.length_eraseIdx]; simp [hil]
      obtain ⟨h', e2, K2, s2⟩ := ih h1' _ (n + 1) (by omega) K1 (fun q => by show i ≤ (S.l.eraseIdx i).length; have := h1 (by omega); omega) (fun q => by omega)
      refine ⟨h', ?_, K2, s1.trans s2⟩
      rw [if_pos rfl]
      rw [show n + (ct (fun j => decide (j < n0) && c j) i + 1) = n + 1 + ct (fun j => decide (j < n0) && c j) i by omega]
      simp (disch := first | assumption | omega) only [e_X8_purge_33, e_X8_purge_34, e_X8_purge_35, e_X8_purge_36, e_X8_purge_37, e_X8_purge_38, e_X8_purge_39, e_X8_purge_40, e_X8_purge_41, e_X8_purge_42, e_X8_purge_43, e_X8_purge_44, e_X8_purge_45, e_X8_purge_46, nI_lt0, if_f, shrN, and1, hb, not_true, if_false, e1, xbk_v, nI_add, e2]
    | false =>
      rw [g] at hb
      have hb : ¬ stN c n0 / 2 ^ i % 2 = 1 := of_decide_eq_false hb
      have hb0 : stN c n0 / 2 ^ i % 2 = 0 := by omega
      obtain ⟨h', e2, K2, s2⟩ := ih h S n (by omega) K0 (fun q => by
        by_cases q2 : i + 1 ≤ n0
        · have := h1 q2; omega
        · have := h2 (by omega); omega) (fun q => h2 (by omega))
      refine ⟨h', ?_, K2, s2⟩
      simp only [Bool.false_eq_true, if_false, Nat.add_zero]
      simp (disch := first | assumption | omega) only [e_X8_purge_33, e_X8_purge_34, e_X8_purge_35, e_X8_purge_36, e_X8_purge_37, e_X8_purge_38, e_X8_purge_39, e_X8_purge_40, e_X8_purge_45, e_X8_purge_46, nI_lt0, if_f, shrN, and1, hb0, show ¬ nI 0 = nI 1 by decide, not_false_eq_true, if_true, if_false, e2]
theorem q_purgeM (K : Md h m S) (hd : dst S.l) : ∃ h', xc XP (d + 14) 157 [.ref m] h = some (some (.int (aPurge S).1), h') ∧ Md h' m (aPurge S).2 ∧ Same h h' m (m + 13) := by
  have K0 := K
  obtain ⟨-, ⟨ra, nu, nr, nm, M⟩, ⟨f, A, L, R⟩, -⟩ := K
  have c0 := M.k
  have h16 := L.1
  have ld0 := ra_ld A 0 (by omega)
  rw [L.2.2.1] at ld0
  have hst := stN_lt (c := covB S.l) (e := 16) S.l.length h16
  have key := loop_itr (fun r a => xe XP (d + 14) 157 (6, [.ref m, .int (nI a), .int (nI 0), .int (nI r)], [], h)) (fun r a => a ||| (if covB S.l r = true then 2 ^ r else 0)) 0 S.l.length (by
    intro r hr
    generalize itr (fun r a => a ||| (if covB S.l r = true then 2 ^ r else 0)) 0 r = a
    show xe XP (d + 14) 157 (6, _, _, _) = xe XP (d + 14) 157 (6, _, _, _)
    have qc := q_isCoveredM (d := d + 10) M A L hr
    have sj := shl1 (k := r) (by omega)
    rw [e_X8_purge_6]
    cases g : covB S.l r with
    | true =>
      rw [g] at qc
      simp (disch := first | assumption | omega) only [e_X8_purge_7, e_X8_purge_8, e_X8_purge_9, e_X8_purge_10, e_X8_purge_11, e_X8_purge_12, e_X8_purge_13, e_X8_purge_14, e_X8_purge_15, e_X8_purge_16, e_X8_purge_17, e_X8_purge_18, e_X8_purge_19, e_X8_purge_20, e_X8_purge_21, e_X8_purge_22, e_X8_purge_23, e_X8_purge_24, e_X8_purge_25, M.f0, Option.bind_some, ld0, nI_leI, if_f, qc, xbk_i, bI_0, Bool.true_eq_false, if_false, sj, nx_or, nI_add, if_true]
    | false =>
      rw [g] at qc
      simp (disch := first | assumption | omega) only [e_X8_purge_7, e_X8_purge_8, e_X8_purge_9, e_X8_purge_10, e_X8_purge_11, e_X8_purge_12, e_X8_purge_13, e_X8_purge_14, e_X8_purge_15, e_X8_purge_16, e_X8_purge_17, e_X8_purge_18, e_X8_purge_19, e_X8_purge_20, e_X8_purge_21, e_X8_purge_22, e_X8_purge_23, e_X8_purge_24, e_X8_purge_25, M.f0, Option.bind_some, ld0, nI_leI, if_f, qc, xbk_i, bI_0, if_true, nx_or, nI_add, Bool.false_eq_true, if_false]) S.l.length (Nat.le_refl _)
  have key : xe XP (d + 14) 157 (6, [.ref m, .int (nI 0), .int (nI 0), .int (nI 0)], [], h) = xe XP (d + 14) 157 (6, [.ref m, .int (nI (stN (covB S.l) S.l.length)), .int (nI 0), .int (nI S.l.length)], [], h) := key
  have hz0 := stN_0 (c := covB S.l) S.l.length
  have e15 : nI 16 + (-1) = nI 15 := by decide
  have hctc : ct (fun j => decide (j < S.l.length) && covB S.l j) 16 = ct (covB S.l) S.l.length := by
    rw [ct_upto 16 h16 (fun j h1 h2 => by rw [decide_eq_false (by omega)]; rfl)]
    exact ct_congr (fun j hj => by rw [decide_eq_true hj]; rfl)
  have hprg : prgC (fun j => decide (j < S.l.length) && covB S.l j) 16 S.l S.s = prgS S.l.length S.l S.s := by
    rw [prgC_cut 16 h16 (fun j h1 h2 => by rw [decide_eq_false (by omega)]; rfl)]
    exact prg_eq _ _ _ hd (Nat.le_refl _) (fun j hj => by rw [decide_eq_true hj]; rfl)
  unfold aPurge
  rw [n_X8_purge]
  by_cases hz : ct (covB S.l) S.l.length = 0
  · rw [if_pos hz]
    have hs0 := hz0.mpr hz
    obtain ⟨h', e2, K2, s2⟩ := pur_loop (d := d) (c := covB S.l) (n0 := S.l.length) h16 16 h S 0 (Nat.le_refl _) K0 (fun q => q) (fun _ => Nat.le_refl _)
    rw [e15, hs0, hctc, hz] at e2
    have hpz : prgS S.l.length S.l S.s = (S.l, S.s) := by
      rw [← hprg, prgC_cut (a := 0) 16 (by omega) (fun j _ hj => ?_)]
      · rfl
      · have hc0 := fup_none.mp ((fup_ct (p := covB S.l) S.l.length).mp hz)
        by_cases q : j < S.l.length
        · rw [hc0 j (by omega) (by omega)]; simp
        · rw [decide_eq_false q]; rfl
    rw [hprg, hpz] at K2
    refine ⟨h', ?_, K2, s2.weak (by omega) (by omega)⟩
    rw [hs0] at key
    simp only [e_X8_purge_0, e_X8_purge_1, e_X8_purge_2, e_X8_purge_3, e_X8_purge_4, e_X8_purge_5, key]
    simp (disch := first | assumption | omega) only [e_X8_purge_6, e_X8_purge_7, e_X8_purge_8, e_X8_purge_9, e_X8_purge_10, e_X8_purge_11, e_X8_purge_26, e_X8_purge_27, e_X8_purge_30, e_X8_purge_31, M.f0, Option.bind_some, ld0, nI_leI, if_t, if_true, e2]
  · rw [if_neg hz]
    have hne : ¬ nI (stN (covB S.l) S.l.length) = nI 0 := by rw [nI_eq (by omega) (by omega)]; exact fun e => hz (hz0.mp e)
    obtain ⟨h1, r1, n1, q1, z1, e1, K1, M1, s1, -⟩ := q_remembers (d := d + 13) K0
    obtain ⟨h', e2, K2, s2⟩ := pur_loop (d := d) (c := covB S.l) (n0 := S.l.length) h16 16 h1 (kpS S S.l S.s S.ms) 0 (Nat.le_refl _) K1 (fun q => q) (fun _ => Nat.le_refl _)
    rw [e15, hctc, Nat.zero_add] at e2
    have K2 : Md h' m (kpS S (prgC (fun j => decide (j < S.l.length) && covB S.l j) 16 S.l S.s).1 (prgC (fun j => decide (j < S.l.length) && covB S.l j) 16 S.l S.s).2 S.ms) := K2
    rw [hprg] at K2
    refine ⟨h', ?_, K2, (s1.weak (by omega) (by omega)).trans (s2.weak (by omega) (by omega))⟩
    simp only [e_X8_purge_0, e_X8_purge_1, e_X8_purge_2, e_X8_purge_3, e_X8_purge_4, e_X8_purge_5, key]
    simp (disch := first | assumption | omega) only [e_X8_purge_6, e_X8_purge_7, e_X8_purge_8, e_X8_purge_9, e_X8_purge_10, e_X8_purge_11, e_X8_purge_26, e_X8_purge_27, e_X8_purge_28, e_X8_purge_29, e_X8_purge_30, e_X8_purge_31, M.f0, Option.bind_some, ld0, nI_leI, if_t, hne, if_false, e1, xbk_v, e2]
end Md25R
