/-! THE CLASS: what changes, the rest -/
def isR (S : CS) (x : Int32) : Bool := decide (nI 0 ≤ x ∧ x < nI S.l.length)
def isSl (x : Int32) : Bool := decide (nI 0 ≤ x ∧ x < nI 16)
def aDrop (S : CS) (x : Int32) : Int32 × CS := if isR S x = true then (nI (S.l.length - 1), kpS S (S.l.eraseIdx (xN x)) (slDel S.s (xN x)) S.ms) else (-1, S)
def aUndo (S : CS) : Int32 × CS := if S.sz = 0 then (-2, S) else (nI (S.sz - 1), mkS S.tx (S.pb ((S.nx + 4) % 5)).1 (S.pb ((S.nx + 4) % 5)).2 S.ms ((S.nx + 4) % 5) (S.sz - 1) S.pb)
def aMoved (S : CS) (i w : Int32) : Int32 := if i < -1 ∨ w < nI 0 ∨ nI 1 < w then -1 else if i = -1 then nI S.ms.length else if nI S.ms.length ≤ i then -4 else if w = nI 0 then nI (S.ms.getD (xN i) (0, 0)).1 else nI (S.ms.getD (xN i) (0, 0)).2
/-- from the last number down, the covered go -/
def prgS : Nat → List Rl → Sl → List Rl × Sl
  | 0, l, s => (l, s)
  | n + 1, l, s => if covB l n = true then prgS n (l.eraseIdx n) (slDel s n) else prgS n l s
def aPurge (S : CS) : Int32 × CS := if ct (covB S.l) S.l.length = 0 then (nI 0, S) else (nI (ct (covB S.l) S.l.length), kpS S (prgS S.l.length S.l S.s).1 (prgS S.l.length S.l S.s).2 S.ms)
def dfA (a b : Sl) (s : Nat) : Bool := (a s).isSome && !decide (a s = b s)
def aPack (S : CS) : Int32 × CS := if ct (dfA (pk S.l) S.s) 16 = 0 then (nI 0, S) else (nI (ct (dfA (pk S.l) S.s) 16), kpS S S.l (pk S.l) S.ms)
def opA (l : List Rl) (σ : Sl) (f t : Nat) : Bool := match σ f with
  | none => false
  | some x => emA σ t && (decide (flA l σ x ≤ t) && decide (t < ceA l σ x))
def aMove (S : CS) (x y : Int32) : Int32 × CS := if isSl x = true ∧ isSl y = true then (if opA S.l S.s (xN x) (xN y) = true then
  (nI (ct (fun s => decide (min (xN x) (xN y) < s) && (mvS S.s (xN x) (xN y) s).isSome) (max (xN x) (xN y))), kpS S S.l (mvS S.s (xN x) (xN y)) S.ms) else (-2, S)) else (-1, S)
section Cls2R
variable {h : XH} {c : Nat} {S : CS} {d : Nat}
theorem isSl_of {x : Int32} (hx : isSl x = true) : ∃ n, n < 16 ∧ x = nI n := by
  unfold isSl at hx
  simp only [decide_eq_true_eq] at hx
  obtain ⟨n, hn, rfl⟩ := nn_of hx.1
  exact ⟨n, (nI_ltI hn (by decide)).mp hx.2, rfl⟩
theorem isR_of {x : Int32} (h16 : S.l.length ≤ 16) (hx : isR S x = true) : ∃ n, n < S.l.length ∧ x = nI n := by
  unfold isR at hx
  simp only [decide_eq_true_eq] at hx
  obtain ⟨n, hn, rfl⟩ := nn_of hx.1
  exact ⟨n, (nI_ltI hn (by omega)).mp hx.2, rfl⟩
theorem q_isSlot2 {x : Int32} : xc XP d 99 [.int x] h = some (some (.int (bI (isSl x))), h) := by
  rw [q_isSlot]
  unfold isSl
  congr 4
  by_cases g : x < nI 0
  · simp [g, Int32.not_le.mpr g]
  · simp [g, Int32.not_lt.mp g]
theorem q_isRule (K : Cr h c S) {x : Int32} : xc XP d 98 [.ref c, .int x] h = some (some (.int (bI (isR S x))), h) := by
  have f0 := K.B.L.f0
  rw [n_X7_isRule]
  simp only [e_X7_isRule_0, e_X7_isRule_1, e_X7_isRule_2, e_X7_isRule_3, e_X7_isRule_4, e_X7_isRule_5, e_X7_isRule_6, e_X7_isRule_7, e_X7_isRule_8, e_X7_isRule_9, e_X7_isRule_10, e_X7_isRule_11, K.O.f2, K.B.g0, f0, Option.bind_some, rk_0, rk_1, if_true]
  unfold isR
  by_cases g1 : x < nI 0
  · rw [if_pos g1, decide_eq_false (fun hh => absurd g1 (Int32.not_lt.mpr hh.1))]; rfl
  · rw [if_neg g1]
    by_cases g2 : nI S.l.length ≤ x
    · rw [if_pos g2, decide_eq_false (fun hh => absurd hh.2 (Int32.not_lt.mpr g2))]; rfl
    · rw [if_neg g2, decide_eq_true ⟨Int32.not_lt.mp g1, Int32.not_le.mp g2⟩]; rfl
/-- what is there once the board is kept -/
theorem Cr.kept (K : Cr h c S) : ∃ h', xc XP (d + 2) 15 [.ref (c + 38), .ref (c + 4)] h = some (none, h') ∧ Cr h' c (kpS S S.l S.s S.ms) ∧ Same h h' (c + 38) (c + 110) := by
  obtain ⟨h2, e2, Q2, s2⟩ := q_keep K.Q K.B (by omega) (d := d)
  obtain ⟨ms, N⟩ := K.N
  exact ⟨h2, e2, ⟨K.O.same s2 (by omega), K.X.same s2 (by omega), K.Z.same s2 (by omega), K.B.same s2 (by omega), K.T.same s2 (by omega), K.M.same s2 (by omega), ⟨ms, N.same s2 (by omega)⟩, Q2⟩, s2⟩
/-- another board -/
theorem Cr.setB {h' : XH} {tx : List Nat} {l l' : List Rl} {σ σ' : Sl} {ms : Mvs} {nx sz : Nat} {pb : Nat → Bst} (K : Cr h c (mkS tx l σ ms nx sz pb)) (B : Brd h' (c + 4) l' σ') (s : Same h h' (c + 4) (c + 18)) : Cr h' c (mkS tx l' σ' ms nx sz pb) := by
  obtain ⟨ms, N⟩ := K.N
  exact ⟨K.O.same s (by omega), K.X.same s (by omega), K.Z.same s (by omega), B, K.T.same s (by omega), K.M.same s (by omega), ⟨ms, N.same s (by omega)⟩, K.Q.same s (by omega)⟩
theorem q_drop (K : Cr h c S) (hd : dst S.l) (x : Int32) : ∃ h', xc XP (d + 14) 83 [.ref c, .int x] h = some (some (.int (aDrop S x).1), h') ∧ Cr h' c (aDrop S x).2 ∧ Same h h' c (c + 110) := by
  have c0 := K.O.k
  unfold aDrop
  rw [n_X7_drop]
  cases hx : isR S x with
  | false =>
    refine ⟨h, ?_, K, Same.refl _ _ _⟩
    simp (disch := first | assumption | omega) only [e_X7_drop_0, e_X7_drop_1, e_X7_drop_2, e_X7_drop_3, e_X7_drop_4, e_X7_drop_5, q_isRule K, hx, xbk_i, bI_f, not_true, if_false, Bool.false_eq_true]
  | true =>
    have h16 := K.B.L.1
    obtain ⟨n, hn, rfl⟩ := isR_of h16 hx
    have c1 := K.Q.c
    obtain ⟨h1, e1, K1, s1⟩ := K.kept (d := d + 11)
    have c2 := K1.B.k
    have hd1 : dst (kpS S S.l S.s S.ms).l := hd
    obtain ⟨h2, e2, B2, s2⟩ := q_removeRule K1.B hd1 (d := d + 11) (r := n) hn
    rw [if_pos rfl, xN_nI (by omega)]
    have K2 : Cr h2 c (kpS S (S.l.eraseIdx n) (slDel S.s n) S.ms) := K1.setB B2 s2
    refine ⟨h2, ?_, K2, (s1.weak (by omega) (by omega)).trans (s2.weak (by omega) (by omega))⟩
    have f0 := K2.B.L.f0
    have hl : (kpS S (S.l.eraseIdx n) (slDel S.s n) S.ms).l.length = S.l.length - 1 := by
      show (S.l.eraseIdx n).length = _
      rw [List.length_eraseIdx, if_pos hn]
    rw [hl] at f0
    simp (disch := first | assumption | omega) only [e_X7_drop_0, e_X7_drop_1, e_X7_drop_2, e_X7_drop_3, e_X7_drop_4, e_X7_drop_5, e_X7_drop_6, e_X7_drop_7, e_X7_drop_8, e_X7_drop_9, e_X7_drop_10, e_X7_drop_11, e_X7_drop_12, e_X7_drop_13, e_X7_drop_14, e_X7_drop_15, e_X7_drop_16, e_X7_drop_17, e_X7_drop_18, e_X7_drop_19, q_isRule K, hx, xbk_i, xbk_v, bI_0, Bool.true_eq_false, not_false_eq_true, if_true, K.O.f6, K.O.f2, Option.bind_some, e1, K1.O.f2, e2, K2.O.f2, K2.B.g0, f0]
theorem q_undo (K : Cr h c S) : ∃ h', xc XP (d + 14) 87 [.ref c] h = some (some (.int (aUndo S).1), h') ∧ Cr h' c (aUndo S).2 ∧ Same h h' c (c + 110) := by
  have c1 := K.Q.c
  have h5 := K.Q.2.1
  unfold aUndo
  rw [n_X7_undo]
  by_cases hz : S.sz = 0
  · rw [if_pos hz]
    refine ⟨h, ?_, K, Same.refl _ _ _⟩
    have f2 := K.Q.f2
    rw [hz] at f2
    simp (disch := first | assumption | omega) only [e_X7_undo_0, e_X7_undo_1, e_X7_undo_2, e_X7_undo_3, e_X7_undo_4, e_X7_undo_5, K.O.f6, f2, Option.bind_some, not_true, if_false]
  · rw [if_neg hz]
    obtain ⟨h1, e1, Q1, B1, s1, l1⟩ := q_giveBack K.Q (by omega) K.B (by omega) (d := d + 11)
    have D : Dif h h1 (fun i => (c + 38 ≤ i ∧ i < c + 38 + 72) ∨ (c + 4 ≤ i ∧ i < c + 4 + 14)) := ⟨l1, fun i hi => s1 i (by omega) (by omega)⟩
    obtain ⟨ms0, N0⟩ := K.N
    have K1 : Cr h1 c (mkS S.tx (S.pb ((S.nx + 4) % 5)).1 (S.pb ((S.nx + 4) % 5)).2 S.ms ((S.nx + 4) % 5) (S.sz - 1) S.pb) :=
      ⟨D.go (P := fun k => CrO k c) (b := c) (e := c + 1) (fun i _ _ => by omega) (fun _ _ _ _ s hd O => CrO.same O s hd) K.O,
       D.go (P := fun k => Txt k (c + 1) S.tx) (b := c + 1) (e := c + 1 + 2) (fun i _ _ => by omega) (fun _ _ _ _ s hd O => Txt.same O s hd) K.X,
       D.go (P := fun k => Rdx k (c + 3)) (b := c + 3) (e := c + 3 + 1) (fun i _ _ => by omega) (fun _ _ _ _ s hd O => Rdx.same O s hd) K.Z,
       B1,
       D.go (P := fun k => Bdx k (c + 18)) (b := c + 18) (e := c + 18 + 14) (fun i _ _ => by omega) (fun _ _ _ _ s hd O => Bdx.same O s hd) K.T,
       D.go (P := fun k => Log k (c + 32) S.ms) (b := c + 32) (e := c + 32 + 3) (fun i _ _ => by omega) (fun _ _ _ _ s hd O => Log.same O s hd) K.M,
       ⟨ms0, D.go (P := fun k => Log k (c + 35) ms0) (b := c + 35) (e := c + 35 + 3) (fun i _ _ => by omega) (fun _ _ _ _ s hd O => Log.same O s hd) N0⟩,
       Q1⟩
    refine ⟨h1, ?_, K1, D.same (fun i hi => by omega)⟩
    have hne : ¬ nI S.sz = nI 0 := by rw [nI_eq (by omega) (by omega)]; exact hz
    have f2 := K1.Q.f2
    simp (disch := first | assumption | omega) only [e_X7_undo_0, e_X7_undo_1, e_X7_undo_2, e_X7_undo_3, e_X7_undo_4, e_X7_undo_5, e_X7_undo_6, e_X7_undo_7, e_X7_undo_8, e_X7_undo_9, e_X7_undo_10, e_X7_undo_11, e_X7_undo_12, e_X7_undo_13, e_X7_undo_14, K.O.f6, K.O.f2, K.Q.f2, Option.bind_some, hne, not_false_eq_true, if_true, e1, xbk_v, K1.O.f6, f2]
    rfl
theorem q_moved (K : Cr h c S) (i w : Int32) : xc XP (d + 14) 90 [.ref c, .int i, .int w] h = some (some (.int (aMoved S i w)), h) := by
  rw [n_X7_moved]
  unfold aMoved
  have M := K.M
  obtain ⟨m1, m2, F, T, m3, m4, m5⟩ := K.M
  by_cases g1 : i < -1
  · rw [if_pos (Or.inl g1)]
    simp only [e_X7_moved_0, e_X7_moved_1, e_X7_moved_2, e_X7_moved_3, e_X7_moved_4, e_X7_moved_5, e_X7_moved_6, e_X7_moved_7, e_X7_moved_8, e_X7_moved_9, g1, if_true]
  · by_cases g2 : w < nI 0
    · rw [if_pos (Or.inr (Or.inl g2))]
      simp only [e_X7_moved_0, e_X7_moved_1, e_X7_moved_2, e_X7_moved_3, e_X7_moved_4, e_X7_moved_5, e_X7_moved_6, e_X7_moved_7, e_X7_moved_8, e_X7_moved_9, g1, g2, if_true, if_false]
    · by_cases g3 : w ≤ nI 1
      · rw [if_neg (fun hh => by
          rcases hh with hh | hh | hh
          · exact g1 hh
          · exact g2 hh
          · exact absurd g3 (Int32.not_le.mpr hh))]
        by_cases g4 : i = -1
        · rw [if_pos g4]
          simp only [e_X7_moved_0, e_X7_moved_1, e_X7_moved_2, e_X7_moved_3, e_X7_moved_4, e_X7_moved_5, e_X7_moved_6, e_X7_moved_7, e_X7_moved_8, e_X7_moved_9, e_X7_moved_10, e_X7_moved_11, e_X7_moved_12, e_X7_moved_13, e_X7_moved_14, e_X7_moved_15, e_X7_moved_16, g1, g2, g3, g4, if_true, if_false, not_true, K.O.f4, M.f2, Option.bind_some]
          rw [if_neg (by decide)]
        · rw [if_neg g4]
          by_cases g5 : nI S.ms.length ≤ i
          · rw [if_pos g5]
            simp only [e_X7_moved_0, e_X7_moved_1, e_X7_moved_2, e_X7_moved_3, e_X7_moved_4, e_X7_moved_5, e_X7_moved_6, e_X7_moved_7, e_X7_moved_8, e_X7_moved_9, e_X7_moved_10, e_X7_moved_11, e_X7_moved_12, e_X7_moved_13, e_X7_moved_14, e_X7_moved_15, e_X7_moved_16, e_X7_moved_17, e_X7_moved_18, e_X7_moved_19, e_X7_moved_20, e_X7_moved_21, e_X7_moved_22, e_X7_moved_23, g1, g2, g3, g4, if_true, if_false, not_false_eq_true, K.O.f4, M.f2, Option.bind_some, Int32.not_lt.mpr g5]
          · rw [if_neg g5]
            have g5 := Int32.not_le.mp g5
            have hi0 : nI 0 ≤ i := by
              rcases Int32.lt_or_eq_of_le (Int32.not_lt.mp g1) with q | q
              · have a1 : (-1 : Int32).toInt < i.toInt := Int32.lt_iff_toInt_lt.mp q
                have a2 : (-1 : Int32).toInt = -1 := by decide
                apply Int32.le_iff_toInt_le.mpr
                rw [nI_toInt (by decide)]
                omega
              · exact absurd q.symm g4
            obtain ⟨n, hn, rfl⟩ := nn_of hi0
            have hlt : n < S.ms.length := (nI_ltI hn (by omega)).mp g5
            have hv := m5 n _ (List.getElem?_eq_getElem hlt)
            have hg : S.ms.getD n (0, 0) = S.ms[n] := by rw [List.getD_eq_getElem?_getD, List.getElem?_eq_getElem hlt]; rfl
            have l1 := xld_ia m3 (by decide) (show n < 18 by omega)
            have l2 := xld_ia m4 (by decide) (show n < 18 by omega)
            rw [xN_nI hn, hg]
            rw [hv.1] at l1
            rw [hv.2] at l2
            by_cases g6 : w = nI 0
            · simp only [e_X7_moved_0, e_X7_moved_1, e_X7_moved_2, e_X7_moved_3, e_X7_moved_4, e_X7_moved_5, e_X7_moved_6, e_X7_moved_7, e_X7_moved_8, e_X7_moved_9, e_X7_moved_10, e_X7_moved_11, e_X7_moved_12, e_X7_moved_13, e_X7_moved_14, e_X7_moved_15, e_X7_moved_16, e_X7_moved_17, e_X7_moved_18, e_X7_moved_19, e_X7_moved_20, e_X7_moved_21, e_X7_moved_22, e_X7_moved_23, e_X7_moved_24, e_X7_moved_25, e_X7_moved_26, e_X7_moved_27, e_X7_moved_28, e_X7_moved_29, e_X7_moved_30, e_X7_moved_31, e_X7_moved_32, e_X7_moved_33, e_X7_moved_34, e_X7_moved_35, e_X7_moved_36, e_X7_moved_37, g1, g2, g3, g4, g5, g6, if_true, if_false, not_false_eq_true, not_true, K.O.f4, M.f0, M.f2, Option.bind_some, l1]
              rw [if_neg (by decide), if_pos (by decide)]
            · simp only [e_X7_moved_0, e_X7_moved_1, e_X7_moved_2, e_X7_moved_3, e_X7_moved_4, e_X7_moved_5, e_X7_moved_6, e_X7_moved_7, e_X7_moved_8, e_X7_moved_9, e_X7_moved_10, e_X7_moved_11, e_X7_moved_12, e_X7_moved_13, e_X7_moved_14, e_X7_moved_15, e_X7_moved_16, e_X7_moved_17, e_X7_moved_18, e_X7_moved_19, e_X7_moved_20, e_X7_moved_21, e_X7_moved_22, e_X7_moved_23, e_X7_moved_24, e_X7_moved_25, e_X7_moved_26, e_X7_moved_27, e_X7_moved_28, e_X7_moved_29, e_X7_moved_30, e_X7_moved_31, e_X7_moved_32, e_X7_moved_33, e_X7_moved_34, e_X7_moved_35, e_X7_moved_36, e_X7_moved_37, g1, g2, g3, g4, g5, g6, if_true, if_false, not_false_eq_true, not_true, K.O.f4, M.f1, M.f2, Option.bind_some, l2]
      · rw [if_pos (Or.inr (Or.inr (Int32.not_le.mp g3)))]
        simp only [e_X7_moved_0, e_X7_moved_1, e_X7_moved_2, e_X7_moved_3, e_X7_moved_4, e_X7_moved_5, e_X7_moved_6, e_X7_moved_7, e_X7_moved_8, e_X7_moved_9, g1, g2, g3, if_false]
end Cls2R
