/-! THE CLASS: purge, pack, move -/
theorem dst_del {l : List Rl} (hd : dst l) (r : Nat) : dst (l.eraseIdx r) := by
  intro i j hi hj he
  have hlen := List.length_eraseIdx (l := l) (i := r)
  rw [rlN_del, rlN_del] at he
  by_cases hr : r < l.length
  · rw [hlen, if_pos hr] at hi hj
    by_cases g1 : i < r <;> by_cases g2 : j < r <;> simp only [g1, g2, if_true, if_false] at he
    · exact hd i j (by omega) (by omega) he
    · have := hd i (j + 1) (by omega) (by omega) he; omega
    · have := hd (i + 1) j (by omega) (by omega) he; omega
    · have := hd (i + 1) (j + 1) (by omega) (by omega) he; omega
  · rw [hlen, if_neg hr] at hi hj
    rw [if_pos (by omega), if_pos (by omega)] at he
    exact hd i j hi hj he
section Cls3R
variable {h : XH} {c : Nat} {S : CS} {d : Nat}
theorem purge_loop {tx : List Nat} {ms : Mvs} {nx sz : Nat} {pb : Nat → Bst} {cv : Int32} : ∀ (n : Nat) (l : List Rl) (σ : Sl) (h : XH), n ≤ l.length → dst l → Cr h c (mkS tx l σ ms nx sz pb) →
    ∃ h', xe XP (d + 14) 84 (21, [.ref c, .int cv, .int (nI n + (-1))], [], h) = some (some (.int cv), h') ∧ Cr h' c (mkS tx (prgS n l σ).1 (prgS n l σ).2 ms nx sz pb) ∧ Same h h' (c + 4) (c + 18) := by
  intro n
  induction n with
  | zero =>
    intro l σ h hn hd K
    refine ⟨h, ?_, K, Same.refl _ _ _⟩
    simp only [e_X7_purge_21, e_X7_purge_22, e_X7_purge_35, e_X7_purge_36, show nI 0 + (-1) = (-1 : Int32) from rfl, m1_lt0, if_true]
  | succ n ih =>
    intro l σ h hn hd K
    have B : Brd h (c + 4) l σ := K.B
    have h16 := B.L.1
    have c1 := B.L.c
    have c2 := B.k
    rw [pk_m1]
    unfold prgS
    cases hc : covB l n with
    | false =>
      obtain ⟨h1, e1, K1, s1⟩ := ih l σ h (by omega) hd K
      refine ⟨h1, ?_, by simpa using K1, s1⟩
      rw [e_X7_purge_21]
      simp (disch := first | assumption | omega) only [e_X7_purge_22, e_X7_purge_23, e_X7_purge_24, e_X7_purge_25, e_X7_purge_26, e_X7_purge_27, e_X7_purge_28, e_X7_purge_29, e_X7_purge_30, e_X7_purge_31, e_X7_purge_32, e_X7_purge_33, e_X7_purge_34, nI_lt0, if_f, K.O.f2, B.g0, Option.bind_some, q_isCovered B.L, xbk_i, hc, bI_0, if_true, if_false, e1]
    | true =>
      obtain ⟨h1, e1, B1, s1⟩ := q_removeRule B hd (d := d + 11) (r := n) (by omega)
      have K1 : Cr h1 c (mkS tx (l.eraseIdx n) (slDel σ n) ms nx sz pb) := K.setB B1 s1
      obtain ⟨h2, e2, K2, s2⟩ := ih (l.eraseIdx n) (slDel σ n) h1 (by rw [List.length_eraseIdx, if_pos (by omega)]; omega) (dst_del hd n) K1
      refine ⟨h2, ?_, by simpa using K2, (s1.weak (by omega) (by omega)).trans s2⟩
      rw [e_X7_purge_21]
      simp (disch := first | assumption | omega) only [e_X7_purge_22, e_X7_purge_23, e_X7_purge_24, e_X7_purge_25, e_X7_purge_26, e_X7_purge_27, e_X7_purge_28, e_X7_purge_29, e_X7_purge_30, e_X7_purge_31, e_X7_purge_32, e_X7_purge_33, e_X7_purge_34, nI_lt0, if_f, K.O.f2, B.g0, Option.bind_some, q_isCovered B.L, xbk_i, xbk_v, hc, bI_0, Bool.true_eq_false, if_false, e1, e2]
theorem q_purge (K : Cr h c S) (hd : dst S.l) : ∃ h', xc XP (d + 14) 84 [.ref c] h = some (some (.int (aPurge S).1), h') ∧ Cr h' c (aPurge S).2 ∧ Same h h' c (c + 110) := by
  have h16 := K.B.L.1
  have hct := ct_le (covB S.l) S.l.length
  have c1 := K.B.L.c
  unfold aPurge
  rw [n_X7_purge]
  by_cases hz : ct (covB S.l) S.l.length = 0
  · rw [if_pos hz]
    refine ⟨h, ?_, K, Same.refl _ _ _⟩
    simp (disch := first | assumption | omega) only [e_X7_purge_0, e_X7_purge_1, e_X7_purge_2, e_X7_purge_3, e_X7_purge_4, e_X7_purge_5, e_X7_purge_6, e_X7_purge_7, e_X7_purge_8, K.O.f2, K.B.g0, Option.bind_some, q_coveredRules K.B.L, xbk_i, hz, not_true, if_false]
  · rw [if_neg hz]
    have hne : ¬ nI (ct (covB S.l) S.l.length) = nI 0 := by rw [nI_eq (by omega) (by omega)]; exact hz
    have c2 := K.Q.c
    obtain ⟨h1, e1, K1, s1⟩ := K.kept (d := d + 11)
    have f0 : xgf h1 (c + 5) 3 0 = some (.int (nI S.l.length)) := K1.B.L.f0
    obtain ⟨h2, e2, K2, s2⟩ := purge_loop (c := c) (d := d) (cv := nI (ct (covB S.l) S.l.length)) S.l.length S.l S.s h1 (by omega) hd K1
    refine ⟨h2, ?_, K2, (s1.weak (by omega) (by omega)).trans (s2.weak (by omega) (by omega))⟩
    simp (disch := first | assumption | omega) only [e_X7_purge_0, e_X7_purge_1, e_X7_purge_2, e_X7_purge_3, e_X7_purge_4, e_X7_purge_5, e_X7_purge_6, e_X7_purge_7, e_X7_purge_8, e_X7_purge_9, e_X7_purge_10, e_X7_purge_11, e_X7_purge_12, e_X7_purge_13, e_X7_purge_14, e_X7_purge_15, e_X7_purge_16, e_X7_purge_17, e_X7_purge_18, e_X7_purge_19, e_X7_purge_20, K.O.f2, K.O.f6, K.B.g0, Option.bind_some, q_coveredRules K.B.L, xbk_i, xbk_v, hne, not_false_eq_true, if_true, e1, K1.O.f2, K1.B.g0, f0, nI_sub1, e2]
theorem dif_eq {l : List Rl} {R P C V R2 P2 C2 V2 : Nat → Int32} {a b : Sl} {s : Nat} (hv : ∀ q ∈ l, vr q) (hd : dst l) (h1 : slIs l R P C V s (a s)) (h2 : slIs l R2 P2 C2 V2 s (b s)) : dif R P R2 P2 s = dfA a b s := by
  unfold dif dfA
  rw [slIs_emp hv h1]
  cases ha : a s with
  | none => rfl
  | some x =>
    rw [ha] at h1
    obtain ⟨a1, a2, a3, a4, -⟩ := h1
    have r1 := (hv _ (rlN_mem a1)).1
    have p1 : rwR (rlN l x.1) ≤ 6 := rwF_le 6 _ _
    cases hb : b s with
    | none =>
      rw [hb] at h2
      have h2 : R2 s = -4 := h2
      have : ¬ nI (rlN l x.1).1 = -4 := nI_n4 (by omega)
      rw [a3, h2]
      simp [this]
    | some y =>
      rw [hb] at h2
      obtain ⟨b1, b2, b3, b4, -⟩ := h2
      have r2 := (hv _ (rlN_mem b1)).1
      have p2 : rwR (rlN l y.1) ≤ 6 := rwF_le 6 _ _
      rw [a3, b3, a4, b4]
      simp only [Option.isNone_some, Option.isSome_some, Bool.not_false, Bool.true_and]
      congr 1
      rw [← Bool.decide_and]
      apply decide_eq_decide.mpr
      rw [nI_eq (by omega) (by omega), nI_eq (by omega) (by omega)]
      constructor
      · rintro ⟨e1, e2⟩
        have := hd _ _ a1 b1 e1
        rw [Prod.ext this e2]
      · intro e
        cases e
        exact ⟨rfl, rfl⟩
theorem q_notAs {b b2 : Nat} {l : List Rl} {σ σ2 : Sl} (hd : dst l) (B : Brd h b l σ) (B2 : Brd h b2 l σ2) : xc XP (d + 1) 63 [.ref (b + 9), .ref (b2 + 9)] h = some (some (.int (nI (ct (dfA σ σ2) 16))), h) := by
  obtain ⟨R, P, C, V, B, hs⟩ := B
  obtain ⟨R2, P2, C2, V2, B2, hs2⟩ := B2
  rw [q_rowsNotAsIn B.T B2.T, ct_congr (fun j hj => dif_eq B.L.2.1 hd (hs j hj) (hs2 j hj))]
theorem q_pack (K : Cr h c S) (hd : dst S.l) (hA : allR S.l ≤ 16) : ∃ h', xc XP (d + 14) 85 [.ref c] h = some (some (.int (aPack S).1), h') ∧ Cr h' c (aPack S).2 ∧ Same h h' c (c + 110) := by
  have c0 := K.T.k
  obtain ⟨ms0, N0⟩ := K.N
  obtain ⟨h1, e1, B1, s1⟩ := Brd.copyX K.T K.B (by omega) (d := d + 12)
  have O1 := K.O.same s1 (by omega)
  have c1 := B1.k
  obtain ⟨h2, e2, B2, s2⟩ : ∃ h2, xc XP (d + 13) 4 [.ref (c + 18)] h1 = some (none, h2) ∧ Brd h2 (c + 18) S.l (pk S.l) ∧ Same h1 h2 (c + 18 + 10) (c + 18 + 14) := by
    obtain ⟨R, P, C, V, B1, hs⟩ := B1
    exact q_packRows B1 hd hA (d := d + 10)
  have O2 := O1.same s2 (by omega)
  have Bb := (K.B.same s1 (by omega)).same s2 (by omega)
  have c2 := B2.t
  have K2 : Cr h2 c S := ⟨O2, (K.X.same s1 (by omega)).same s2 (by omega), (K.Z.same s1 (by omega)).same s2 (by omega), Bb, B2.x, (K.M.same s1 (by omega)).same s2 (by omega), ⟨ms0, (N0.same s1 (by omega)).same s2 (by omega)⟩, (K.Q.same s1 (by omega)).same s2 (by omega)⟩
  have S2 : Same h h2 c (c + 110) := (s1.weak (by omega) (by omega)).trans (s2.weak (by omega) (by omega))
  have hct := ct_le (dfA (pk S.l) S.s) 16
  unfold aPack
  rw [n_X7_pack]
  by_cases hz : ct (dfA (pk S.l) S.s) 16 = 0
  · rw [if_pos hz]
    refine ⟨h2, ?_, K2, S2⟩
    simp (disch := first | assumption | omega) only [e_X7_pack_0, e_X7_pack_1, e_X7_pack_2, e_X7_pack_3, e_X7_pack_4, e_X7_pack_5, e_X7_pack_6, e_X7_pack_7, e_X7_pack_8, e_X7_pack_9, e_X7_pack_10, e_X7_pack_11, e_X7_pack_12, e_X7_pack_13, e_X7_pack_14, e_X7_pack_15, e_X7_pack_16, e_X7_pack_17, e_X7_pack_28, e_X7_pack_29, K.O.f3, K.O.f2, Option.bind_some, e1, O1.f3, e2, O2.f3, O2.f2, B2.g1, Bb.g1, xbk_i, xbk_v, q_notAs hd B2 Bb, hz, nI_leI, if_t, Nat.le_refl, if_true]
  · rw [if_neg hz]
    have c3 := K2.Q.c
    obtain ⟨h3, e3, K3, s3⟩ := K2.kept (d := d + 11)
    have B3 := B2.same s3 (by omega)
    have c4 := K3.B.k
    obtain ⟨h4, e4, B4, s4⟩ := K3.B.copy B3 (by omega) (d := d + 12)
    refine ⟨h4, ?_, K3.setB B4 s4, (S2.trans (s3.weak (by omega) (by omega))).trans (s4.weak (by omega) (by omega))⟩
    simp (disch := first | assumption | omega) only [e_X7_pack_0, e_X7_pack_1, e_X7_pack_2, e_X7_pack_3, e_X7_pack_4, e_X7_pack_5, e_X7_pack_6, e_X7_pack_7, e_X7_pack_8, e_X7_pack_9, e_X7_pack_10, e_X7_pack_11, e_X7_pack_12, e_X7_pack_13, e_X7_pack_14, e_X7_pack_15, e_X7_pack_16, e_X7_pack_17, e_X7_pack_18, e_X7_pack_19, e_X7_pack_20, e_X7_pack_21, e_X7_pack_22, e_X7_pack_23, e_X7_pack_24, e_X7_pack_25, e_X7_pack_26, e_X7_pack_27, e_X7_pack_28, e_X7_pack_29, K.O.f3, K.O.f2, Option.bind_some, e1, O1.f3, e2, O2.f3, O2.f2, O2.f6, B2.g1, Bb.g1, xbk_i, xbk_v, q_notAs hd B2 Bb, nI_leI, if_f, e3, K3.O.f2, K3.O.f3, e4]
theorem q_emBr {b : Nat} {l : List Rl} {σ : Sl} (B : Brd h b l σ) {s : Nat} (hs : s < 16) : xc XP d 46 [.ref (b + 9), .int (nI s)] h = some (some (.int (bI (emA σ s))), h) := by
  obtain ⟨R, P, C, V, B, r1⟩ := B
  rw [q_isEmpty B.T (by omega), slIs_emp B.L.2.1 (r1 s hs)]
  rfl
theorem q_opBr {b : Nat} {l : List Rl} {σ : Sl} (B : Brd h b l σ) {f t : Nat} (hf : f < 16) (ht : t < 16) (he : emA σ f = false) : xc XP (d + 2) 57 [.ref (b + 9), .int (nI f), .int (nI t)] h = some (some (.int (bI (opA l σ f t))), h) := by
  obtain ⟨R, P, C, V, B, r1⟩ := B
  rw [q_isOpen B.T (by omega) (by omega)]
  unfold opn opA
  unfold emA at he
  have q := r1 f hf
  cases hx : σ f with
  | none => rw [hx] at he; cases he
  | some x =>
    rw [hx] at q
    simp only
    rw [flN_eq B.L.2.1 r1 q, ceN_eq B.L.2.1 r1 q, slIs_emp B.L.2.1 (r1 t ht)]
    rfl
theorem q_shBr {b : Nat} {l : List Rl} {σ : Sl} (B : Brd h b l σ) {f g : Nat} {x : Nat × Nat} (hf : f < 16) (hg : g < 16) (hfg : f ≠ g) (hx : σ f = some x) : ∃ h', xc XP (d + 1) 50 [.ref (b + 9), .int (nI f), .int (nI g)] h = some (none, h') ∧ Brd h' b l (mvS σ f g) ∧ Same h h' b (b + 14) := by
  obtain ⟨R, P, C, V, B, r1⟩ := B
  obtain ⟨h1, e1, T1, s1⟩ := q_shift B.T (d := d) (f := f) (g := g) (by omega) (by omega)
  refine ⟨h1, e1, ⟨_, _, _, _, B.setT T1 (s1.weak (by omega) (by omega)), ?_⟩, s1.weak (by omega) (by omega)⟩
  intro s hs
  unfold mvS
  by_cases a1 : s = f
  · rw [if_pos a1, a1]; exact upd_s
  · rw [if_neg a1]
    by_cases a2 : s = g
    · rw [if_pos a2, a2, hx]
      have q := r1 f hf
      rw [hx] at q
      obtain ⟨q1, q2, q3, q4, q5, q6⟩ := q
      exact ⟨q1, q2, by rw [upd_n (by omega), upd_s]; exact q3, by rw [upd_s]; exact q4, by rw [upd_s]; exact q5, by rw [upd_s, q6, q5, nx_and, rwVC]⟩
    · rw [if_neg a2]
      exact (r1 s hs).to (by rw [upd_n a1, upd_n a2]) (by rw [upd_n a2]) (by rw [upd_n a2]) (by rw [upd_n a2])
theorem q_btBr {b : Nat} {l : List Rl} {σ : Sl} (B : Brd h b l σ) {f t : Nat} (hf : f < 16) (ht : t < 16) : xc XP (d + 1) 62 [.ref (b + 9), .int (nI f), .int (nI t)] h = some (some (.int (nI (ct (fun s => decide (min f t < s) && (σ s).isSome) (max f t)))), h) := by
  obtain ⟨R, P, C, V, B, r1⟩ := B
  have q := q_rowsBetween B.T (d := d) (a := f + 1) (b := t + 1) (by omega) (by omega)
  rw [pk_m1, pk_m1] at q
  rw [q, show max (f + 1) (t + 1) - 1 = max f t by omega]
  rw [ct_congr (q := fun s => decide (min f t < s) && (σ s).isSome) (fun j hj => ?_)]
  rw [slIs_emp B.L.2.1 (r1 j (by omega))]
  congr 1
  · exact decide_eq_decide.mpr (by omega)
  · cases σ j <;> rfl
theorem q_move (K : Cr h c S) (x y : Int32) : ∃ h', xc XP (d + 14) 86 [.ref c, .int x, .int y] h = some (some (.int (aMove S x y).1), h') ∧ Cr h' c (aMove S x y).2 ∧ Same h h' c (c + 110) := by
  have c0 := K.B.t
  unfold aMove
  rw [n_X7_move]
  cases hx : isSl x with
  | false =>
    refine ⟨h, ?_, by simpa using K, Same.refl _ _ _⟩
    simp (disch := first | assumption | omega) only [e_X7_move_0, e_X7_move_1, e_X7_move_2, e_X7_move_3, e_X7_move_4, e_X7_move_5, e_X7_move_6, e_X7_move_7, q_isSlot2, hx, xbk_i, bI_0, if_true, Bool.false_eq_true, false_and, if_false]
  | true =>
    cases hy : isSl y with
    | false =>
      refine ⟨h, ?_, by simpa using K, Same.refl _ _ _⟩
      simp (disch := first | assumption | omega) only [e_X7_move_0, e_X7_move_1, e_X7_move_2, e_X7_move_3, e_X7_move_4, e_X7_move_5, e_X7_move_6, e_X7_move_7, q_isSlot2, hx, hy, xbk_i, bI_0, if_true, Bool.false_eq_true, and_false, if_false, Bool.true_eq_false, not_true]
    | true =>
      obtain ⟨f, hf, rfl⟩ := isSl_of hx
      obtain ⟨t, ht, rfl⟩ := isSl_of hy
      rw [if_pos ⟨rfl, rfl⟩, xN_nI (by omega), xN_nI (by omega)]
      cases hem : emA S.s f with
      | true =>
        have ho : opA S.l S.s f t = false := by unfold opA; unfold emA at hem; cases hq : S.s f with | none => rfl | some z => rw [hq] at hem; cases hem
        rw [ho]
        refine ⟨h, ?_, by simpa using K, Same.refl _ _ _⟩
        simp (disch := first | assumption | omega) only [e_X7_move_0, e_X7_move_1, e_X7_move_2, e_X7_move_3, e_X7_move_4, e_X7_move_5, e_X7_move_6, e_X7_move_7, e_X7_move_8, e_X7_move_9, e_X7_move_10, e_X7_move_11, e_X7_move_12, e_X7_move_13, e_X7_move_14, e_X7_move_15, e_X7_move_16, e_X7_move_17, e_X7_move_18, e_X7_move_19, e_X7_move_20, e_X7_move_21, e_X7_move_22, q_isSlot2, hx, hy, xbk_i, bI_0, if_true, Bool.true_eq_false, if_false, not_false_eq_true, K.O.f2, K.B.g1, Option.bind_some, q_emBr K.B, hem, Bool.false_eq_true]
      | false =>
        cases ho : opA S.l S.s f t with
        | false =>
          refine ⟨h, ?_, by simpa using K, Same.refl _ _ _⟩
          simp (disch := first | assumption | omega) only [e_X7_move_0, e_X7_move_1, e_X7_move_2, e_X7_move_3, e_X7_move_4, e_X7_move_5, e_X7_move_6, e_X7_move_7, e_X7_move_8, e_X7_move_9, e_X7_move_10, e_X7_move_11, e_X7_move_12, e_X7_move_13, e_X7_move_14, e_X7_move_15, e_X7_move_16, e_X7_move_17, e_X7_move_18, e_X7_move_19, e_X7_move_20, e_X7_move_21, e_X7_move_22, q_isSlot2, hx, hy, xbk_i, bI_0, if_true, Bool.true_eq_false, if_false, not_false_eq_true, not_true, K.O.f2, K.B.g1, Option.bind_some, q_emBr K.B, q_opBr K.B, hem, ho, Bool.false_eq_true]
        | true =>
          obtain ⟨z, hz⟩ : ∃ z, S.s f = some z := by unfold emA at hem; cases hq : S.s f with | none => rw [hq] at hem; cases hem | some z => exact ⟨z, rfl⟩
          have hft : f ≠ t := by
            intro e
            unfold opA at ho
            rw [hz] at ho
            simp only [Bool.and_eq_true] at ho
            have := ho.1
            unfold emA at this
            rw [← e, hz] at this
            cases this
          have c3 := K.Q.c
          obtain ⟨h1, e1, K1, s1⟩ := K.kept (d := d + 11)
          have c4 := K1.B.t
          obtain ⟨h2, e2, B2, s2⟩ := q_shBr K1.B (d := d + 12) (f := f) (g := t) (x := z) hf ht hft hz
          have c5 := B2.t
          have K2 : Cr h2 c (kpS S S.l (mvS S.s f t) S.ms) := K1.setB B2 s2
          have B2 : Brd h2 (c + 4) S.l (mvS S.s f t) := B2
          refine ⟨h2, ?_, K2, (s1.weak (by omega) (by omega)).trans (s2.weak (by omega) (by omega))⟩
          simp (disch := first | assumption | omega) only [e_X7_move_0, e_X7_move_1, e_X7_move_2, e_X7_move_3, e_X7_move_4, e_X7_move_5, e_X7_move_6, e_X7_move_7, e_X7_move_8, e_X7_move_9, e_X7_move_10, e_X7_move_11, e_X7_move_12, e_X7_move_13, e_X7_move_14, e_X7_move_15, e_X7_move_16, e_X7_move_17, e_X7_move_18, e_X7_move_19, e_X7_move_20, e_X7_move_21, e_X7_move_22, e_X7_move_23, e_X7_move_24, e_X7_move_25, e_X7_move_26, e_X7_move_27, e_X7_move_28, e_X7_move_29, e_X7_move_30, e_X7_move_31, e_X7_move_32, e_X7_move_33, e_X7_move_34, e_X7_move_35, e_X7_move_36, q_isSlot2, hx, hy, xbk_i, xbk_v, bI_0, if_true, Bool.true_eq_false, if_false, not_false_eq_true, not_true, K.O.f2, K.O.f6, K.B.g1, Option.bind_some, q_emBr K.B, q_opBr K.B, hem, ho, e1, e2, q_btBr B2]
end Cls3R
