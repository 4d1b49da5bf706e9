/-! THE CLASS: its state, and a rule that is tried -/
def CS : Type := List Nat × List Rl × Sl × Mvs × Nat × Nat × (Nat → Bst)
def mkS (tx : List Nat) (l : List Rl) (s : Sl) (ms : Mvs) (nx sz : Nat) (pb : Nat → Bst) : CS := (tx, l, s, ms, nx, sz, pb)
def CS.tx (S : CS) : List Nat := S.1
def CS.l (S : CS) : List Rl := S.2.1
def CS.s (S : CS) : Sl := S.2.2.1
def CS.ms (S : CS) : Mvs := S.2.2.2.1
def CS.nx (S : CS) : Nat := S.2.2.2.2.1
def CS.sz (S : CS) : Nat := S.2.2.2.2.2.1
def CS.pb (S : CS) : Nat → Bst := S.2.2.2.2.2.2
def Cr (h : XH) (c : Nat) (S : CS) : Prop := CrO h c ∧ Txt h (c + 1) S.tx ∧ Rdx h (c + 3) ∧ Brd h (c + 4) S.l S.s ∧ Bdx h (c + 18) ∧ Log h (c + 32) S.ms ∧ (∃ ms, Log h (c + 35) ms) ∧ Pst h (c + 38) S.nx S.sz S.pb
theorem Cr.O {h : XH} {c : Nat} {S : CS} (K : Cr h c S) : CrO h c := K.1
theorem Cr.X {h : XH} {c : Nat} {S : CS} (K : Cr h c S) : Txt h (c + 1) S.tx := K.2.1
theorem Cr.Z {h : XH} {c : Nat} {S : CS} (K : Cr h c S) : Rdx h (c + 3) := K.2.2.1
theorem Cr.B {h : XH} {c : Nat} {S : CS} (K : Cr h c S) : Brd h (c + 4) S.l S.s := K.2.2.2.1
theorem Cr.T {h : XH} {c : Nat} {S : CS} (K : Cr h c S) : Bdx h (c + 18) := K.2.2.2.2.1
theorem Cr.M {h : XH} {c : Nat} {S : CS} (K : Cr h c S) : Log h (c + 32) S.ms := K.2.2.2.2.2.1
theorem Cr.N {h : XH} {c : Nat} {S : CS} (K : Cr h c S) : ∃ ms, Log h (c + 35) ms := K.2.2.2.2.2.2.1
theorem Cr.Q {h : XH} {c : Nat} {S : CS} (K : Cr h c S) : Pst h (c + 38) S.nx S.sz S.pb := K.2.2.2.2.2.2.2
theorem Dif.same {h h' : XH} {S : Nat → Prop} {lo hi : Nat} (D : Dif h h' S) (hS : ∀ i, S i → lo ≤ i ∧ i < hi) : Same h h' lo hi := ⟨D.1, fun i hi2 => D.2 i (fun q => by have := hS i q; omega)⟩
section BrdR
variable {h : XH} {b : Nat} {l : List Rl} {σ : Sl}
theorem Brd.k (B : Brd h b l σ) : xcls h (.ref b) = some 0 := by obtain ⟨R, P, C, V, B, -⟩ := B; exact B.c
theorem Brd.g0 (B : Brd h b l σ) : xgf h b 0 0 = some (.ref (b + 1)) := by obtain ⟨R, P, C, V, B, -⟩ := B; exact B.f0
theorem Brd.g1 (B : Brd h b l σ) : xgf h b 0 1 = some (.ref (b + 9)) := by obtain ⟨R, P, C, V, B, -⟩ := B; exact B.f1
theorem Brd.L (B : Brd h b l σ) : Lst h (b + 1) l := by obtain ⟨R, P, C, V, B, -⟩ := B; exact B.L
theorem Brd.t (B : Brd h b l σ) : xcls h (.ref (b + 9)) = some 5 := by obtain ⟨R, P, C, V, B, -⟩ := B; exact B.T.c
theorem q_rowsB (B : Brd h b l σ) {d : Nat} : xc XP (d + 2) 61 [.ref (b + 9)] h = some (some (.int (nI (rws σ))), h) := by
  obtain ⟨R, P, C, V, B, hs⟩ := B
  rw [q_rows B.T]
  unfold rws
  rw [ct_congr (fun j hj => show (!emp R j) = (σ j).isSome by rw [slIs_emp B.L.2.1 (hs j hj)]; cases σ j <;> rfl)]
theorem slIs.app {R P C V : Nat → Int32} {s : Nat} {o : Option (Nat × Nat)} {q : Rl} (h : slIs l R P C V s o) : slIs (l ++ [q]) R P C V s o := by
  cases o with
  | none => exact h
  | some x =>
    obtain ⟨h1, h2⟩ := h
    refine ⟨by simp; omega, ?_⟩
    rw [rlN_app h1]
    exact h2
theorem Brd.app {h' : XH} {q : Rl} (B : Brd h b l σ) (L : Lst h' (b + 1) (l ++ [q])) (s : Same h h' (b + 1) (b + 9)) : Brd h' b (l ++ [q]) σ := by
  obtain ⟨R, P, C, V, B, hs⟩ := B
  exact ⟨R, P, C, V, B.setL L s, fun s h1 => (hs s h1).app⟩
theorem Brd.copyX {b2 : Nat} {l2 : List Rl} {σ2 : Sl} (B : Bdx h b) (B2 : Brd h b2 l2 σ2) (hd : b + 14 ≤ b2 ∨ b2 + 14 ≤ b) {d : Nat} : ∃ h', xc XP (d + 1) 1 [.ref b, .ref b2] h = some (none, h') ∧ Brd h' b l2 σ2 ∧ Same h h' b (b + 14) := by
  obtain ⟨l, R, P, C, V, B⟩ := B
  obtain ⟨R2, P2, C2, V2, B2, hs2⟩ := B2
  obtain ⟨h', e, B', s'⟩ := q_copyFromB B B2 hd (d := d)
  exact ⟨h', e, ⟨_, _, _, _, B', fun s hs => (hs2 s hs).to (cpy0 (by omega)) (cpy0 (by omega)) (cpy0 (by omega)) (cpy0 (by omega))⟩, s'⟩
theorem Bdx.k (B : Bdx h b) : xcls h (.ref b) = some 0 := by obtain ⟨l, R, P, C, V, B⟩ := B; exact B.c
theorem Log.clear {g : Nat} {ms : Mvs} (L : Log h g ms) : ∃ h', xpf h g 1 2 (.int (nI 0)) = some h' ∧ Log h' g [] ∧ Same h h' g (g + 3) := by
  obtain ⟨l1, l2, F, T, l3, l4, l5⟩ := L
  refine ⟨_, xpf_o l2 (k := 2) (by simp) _, ⟨by simp, get_set l2 _, F, T, ?_, ?_, ?_⟩, (Same.refl _ _ _).set (by omega) (by omega) _⟩
  · rw [get_ne _ (by omega)]; exact l3
  · rw [get_ne _ (by omega)]; exact l4
  · intro j q hq; simp at hq
end BrdR
theorem Cr.tt {h h' : XH} {c : Nat} {S : CS} (K : Cr h c S) (D : Dif h h' (TT c)) (T : Bdx h' (c + 18)) (N : ∃ ms, Log h' (c + 35) ms) : Cr h' c S :=
  ⟨D.go (P := fun k => CrO k c) (b := c) (e := c + 1) (fun i _ _ => by unfold TT; omega) (fun _ _ _ _ s hd O => CrO.same O s hd) K.O,
   D.go (P := fun k => Txt k (c + 1) S.tx) (b := c + 1) (e := c + 1 + 2) (fun i _ _ => by unfold TT; omega) (fun _ _ _ _ s hd O => Txt.same O s hd) K.X,
   D.go (P := fun k => Rdx k (c + 3)) (b := c + 3) (e := c + 3 + 1) (fun i _ _ => by unfold TT; omega) (fun _ _ _ _ s hd O => Rdx.same O s hd) K.Z,
   D.go (P := fun k => Brd k (c + 4) S.l S.s) (b := c + 4) (e := c + 4 + 14) (fun i _ _ => by unfold TT; omega) (fun _ _ _ _ s hd O => Brd.same O s hd) K.B,
   T,
   D.go (P := fun k => Log k (c + 32) S.ms) (b := c + 32) (e := c + 32 + 3) (fun i _ _ => by unfold TT; omega) (fun _ _ _ _ s hd O => Log.same O s hd) K.M,
   N,
   D.go (P := fun k => Pst k (c + 38) S.nx S.sz S.pb) (b := c + 38) (e := c + 38 + 72) (fun i _ _ => by unfold TT; omega) (fun _ _ _ _ s hd O => Pst.same O s hd) K.Q⟩
theorem TT.in {c i : Nat} (h : TT c i) : c ≤ i ∧ i < c + 110 := by unfold TT at h; omega
def tryO (S : CS) (a b f t e : Int32) : Int32 ⊕ (Rl × Sl × Mvs) := match vrI a b f t e with
  | none => .inl (-1)
  | some q => if (nofR S.l q.1).isSome = true then .inl (-2) else match trS S.l S.s q with
    | none => .inl (-3)
    | some r => .inr (q, r.1, r.2)
def tryA (o : Int32 ⊕ (Rl × Sl × Mvs)) : Int32 := match o with
  | .inl x => x
  | .inr y => nI y.2.2.length
theorem q_tryRule {h : XH} {c : Nat} {S : CS} (K : Cr h c S) (hi : S.l.length ≤ rws S.s) {d : Nat} (a b f t e : Int32) :
    ∃ h', xc XP (d + 11) 104 [.ref c, .int a, .int b, .int f, .int t, .int e] h = some (some (.int (tryA (tryO S a b f t e))), h') ∧ Cr h' c S ∧ Dif h h' (TT c) ∧
      ∀ q σ ms, tryO S a b f t e = .inr (q, σ, ms) → Brd h' (c + 18) (S.l ++ [q]) σ ∧ Log h' (c + 35) ms := by
  cases hq : vrI a b f t e with
  | none =>
    refine ⟨h, ?_, K, Dif.refl _ _, fun q σ ms hh => by unfold tryO at hh; rw [hq] at hh; cases hh⟩
    rw [try_bad hq]
    unfold tryO
    rw [hq]
    rfl
  | some q =>
    obtain ⟨v, rfl, rfl, rfl, rfl, rfl, g1, g2⟩ := vrI_some hq
    have v1 := v.1
    have v3 := v.2.2.1
    have v4 := v.2.2.2.1
    have v5 := v.2.2.2.2
    have O := K.O
    have B := K.B
    have c0 := B.k
    have c1 := B.L.c
    have c2 := B.t
    have c3 := K.T.k
    cases hN : nofR S.l q.1 with
    | some j =>
      have hj := nofR_some hN
      have h16 := B.L.1
      have ho : tryO S (nI q.1) (nI q.2.1) (nI q.2.2.1) (nI q.2.2.2.1) (nI q.2.2.2.2) = .inl (-2) := by unfold tryO; rw [hq]; simp [hN]
      refine ⟨h, ?_, K, Dif.refl _ _, fun q σ ms hh => by rw [ho] at hh; cases hh⟩
      rw [ho, n_X7_tryRule]
      simp (disch := first | assumption | omega) only [e_X7_tryRule_0, e_X7_tryRule_1, e_X7_tryRule_2, e_X7_tryRule_3, e_X7_tryRule_4, e_X7_tryRule_5, e_X7_tryRule_6, e_X7_tryRule_7, e_X7_tryRule_8, e_X7_tryRule_9, e_X7_tryRule_10, e_X7_tryRule_11, e_X7_tryRule_12, e_X7_tryRule_13, e_X7_tryRule_14, e_X7_tryRule_15, e_X7_tryRule_16, e_X7_tryRule_17, e_X7_tryRule_18, e_X7_tryRule_19, e_X7_tryRule_20, e_X7_tryRule_21, e_X7_tryRule_22, e_X7_tryRule_23, e_X7_tryRule_24, e_X7_tryRule_25, e_X7_tryRule_26, nI_lt0, if_f, nI_leI, q_isHead, q_isSpan2, g1, g2, xbk_i, bI_0, Bool.true_eq_false, if_false, nI_ltI, if_t, O.f2, B.g0, Option.bind_some, q_numberOf B.L, hN, oI_some]
      rfl
    | none =>
      by_cases hr : rws S.s + rwR q ≤ 16
      · obtain ⟨ms0, N0⟩ := K.N
        have h6 := rwR_pos v
        obtain ⟨k1, e1, B1, s1⟩ := Brd.copyX K.T B (by omega) (d := d + 9)
        have N1 := N0.same s1 (by omega)
        have O1 := O.same s1 (by omega)
        obtain ⟨k2, e2, N2, s2⟩ := N1.clear
        have B2 := B1.same s2 (by omega)
        have O2 := O1.same s2 (by omega)
        have c4 := B2.L.c
        obtain ⟨k3, e3, L3, s3⟩ := q_appendR B2.L (d := d + 9) (q := q) v (by omega)
        have B3 := B2.app L3 s3
        have O3 := O2.same s3 (by omega)
        have N3 := N2.same s3 (by omega)
        have hlen : (S.l ++ [q]).length = S.l.length + 1 := by simp
        obtain ⟨k4, e4, r4, d4⟩ := try_loop (c := c) (l := S.l ++ [q]) (r := S.l.length) (q := q) (d := d) (a1 := .int (nI q.1)) (a2 := .int (nI q.2.1)) (a3 := .int (nI q.2.2.1)) (a5 := .int (nI q.2.2.2.2)) L3.2.1 (by omega) rlN_last (rwR q) 0 S.s [] k3 (by omega) (by simp) O3 B3 N3
        have hS : trS S.l S.s q = cmS (S.l ++ [q]) S.l.length (rwR q) 0 S.s [] := by unfold trS; rw [if_pos hr]
        have D : Dif h k4 (TT c) := (((s1.dif (fun i h1 h2 => by unfold TT; omega)).trans (s2.dif (fun i h1 h2 => by unfold TT; omega))).trans (s3.dif (fun i h1 h2 => by unfold TT; omega))).trans d4
        have ht0 : tlN q 0 = q.2.2.1 := rfl
        rw [ht0] at e4
        have B3L := B3.L.f0
        have e5 : xc XP (d + 11) 104 [.ref c, .int (nI q.1), .int (nI q.2.1), .int (nI q.2.2.1), .int (nI q.2.2.2.1), .int (nI q.2.2.2.2)] h = some (some (.int (tryI (cmS (S.l ++ [q]) S.l.length (rwR q) 0 S.s []))), k4) := by
          have hrw : rwF 6 q.2.2.1 q.2.2.2.1 = rwR q := rfl
          rw [n_X7_tryRule]
          simp (disch := first | assumption | omega) only [e_X7_tryRule_0, e_X7_tryRule_1, e_X7_tryRule_2, e_X7_tryRule_3, e_X7_tryRule_4, e_X7_tryRule_5, e_X7_tryRule_6, e_X7_tryRule_7, e_X7_tryRule_8, e_X7_tryRule_9, e_X7_tryRule_10, e_X7_tryRule_11, e_X7_tryRule_12, e_X7_tryRule_13, e_X7_tryRule_14, e_X7_tryRule_15, e_X7_tryRule_16, e_X7_tryRule_17, e_X7_tryRule_18, e_X7_tryRule_19, e_X7_tryRule_20, e_X7_tryRule_21, e_X7_tryRule_22, e_X7_tryRule_23, e_X7_tryRule_24, e_X7_tryRule_25, e_X7_tryRule_26, e_X7_tryRule_27, e_X7_tryRule_28, e_X7_tryRule_29, e_X7_tryRule_30, e_X7_tryRule_31, e_X7_tryRule_32, e_X7_tryRule_33, e_X7_tryRule_34, e_X7_tryRule_35, e_X7_tryRule_36, e_X7_tryRule_37, e_X7_tryRule_38, e_X7_tryRule_39, e_X7_tryRule_40, e_X7_tryRule_41, e_X7_tryRule_42, e_X7_tryRule_43, e_X7_tryRule_44, e_X7_tryRule_45, e_X7_tryRule_46, e_X7_tryRule_47, e_X7_tryRule_48, e_X7_tryRule_49, e_X7_tryRule_50, e_X7_tryRule_51, e_X7_tryRule_52, e_X7_tryRule_53, e_X7_tryRule_54, e_X7_tryRule_55, e_X7_tryRule_56, e_X7_tryRule_57, e_X7_tryRule_58, e_X7_tryRule_59, e_X7_tryRule_60, e_X7_tryRule_61, e_X7_tryRule_62, e_X7_tryRule_63, e_X7_tryRule_64, e_X7_tryRule_65, e_X7_tryRule_66, e_X7_tryRule_67, nI_lt0, if_f, nI_leI, q_isHead, q_isSpan2, g1, g2, xbk_i, xbk_v, bI_0, Bool.true_eq_false, if_false, nI_ltI, if_t, O.f2, O.f3, B.g0, B.g1, Option.bind_some, q_numberOf B.L, hN, oI_none, m4_lt0, if_true, q_rowsB B, q_rowsOfSpan, hrw, nI_add, e1, O1.f5, e2, O2.f3, B2.g0, e3, O3.f3, B3.g0, B3L, hlen, pk_sub, Nat.add_sub_cancel, e4]
        cases ho : cmS (S.l ++ [q]) S.l.length (rwR q) 0 S.s [] with
        | none =>
          rw [ho] at e5 r4
          have hO : tryO S (nI q.1) (nI q.2.1) (nI q.2.2.1) (nI q.2.2.2.1) (nI q.2.2.2.2) = .inl (-3) := by unfold tryO; rw [hq]; simp [hN, hS, ho]
          rw [hO]
          exact ⟨k4, e5, K.tt D r4.1 r4.2, D, fun q σ ms hh => by cases hh⟩
        | some r =>
          rw [ho] at e5 r4
          have hO : tryO S (nI q.1) (nI q.2.1) (nI q.2.2.1) (nI q.2.2.2.1) (nI q.2.2.2.2) = .inr (q, r.1, r.2) := by unfold tryO; rw [hq]; simp [hN, hS, ho]
          rw [hO]
          exact ⟨k4, e5, K.tt D r4.1.x ⟨_, r4.2⟩, D, fun q σ ms hh => by cases hh; exact r4⟩
      · have h6 : rwR q ≤ 6 := rwF_le 6 _ _
        have h16 : rws S.s ≤ 16 := ct_le _ _
        have hS : trS S.l S.s q = none := by unfold trS; rw [if_neg hr]
        have hO : tryO S (nI q.1) (nI q.2.1) (nI q.2.2.1) (nI q.2.2.2.1) (nI q.2.2.2.2) = .inl (-3) := by unfold tryO; rw [hq]; simp [hN, hS]
        refine ⟨h, ?_, K, Dif.refl _ _, fun q σ ms hh => by rw [hO] at hh; cases hh⟩
        have hrw : rwF 6 q.2.2.1 q.2.2.2.1 = rwR q := rfl
        rw [hO, n_X7_tryRule]
        simp (disch := first | assumption | omega) only [e_X7_tryRule_0, e_X7_tryRule_1, e_X7_tryRule_2, e_X7_tryRule_3, e_X7_tryRule_4, e_X7_tryRule_5, e_X7_tryRule_6, e_X7_tryRule_7, e_X7_tryRule_8, e_X7_tryRule_9, e_X7_tryRule_10, e_X7_tryRule_11, e_X7_tryRule_12, e_X7_tryRule_13, e_X7_tryRule_14, e_X7_tryRule_15, e_X7_tryRule_16, e_X7_tryRule_17, e_X7_tryRule_18, e_X7_tryRule_19, e_X7_tryRule_20, e_X7_tryRule_21, e_X7_tryRule_22, e_X7_tryRule_23, e_X7_tryRule_24, e_X7_tryRule_25, e_X7_tryRule_26, e_X7_tryRule_27, e_X7_tryRule_28, e_X7_tryRule_29, e_X7_tryRule_30, e_X7_tryRule_31, e_X7_tryRule_32, e_X7_tryRule_33, e_X7_tryRule_34, e_X7_tryRule_35, e_X7_tryRule_36, e_X7_tryRule_37, e_X7_tryRule_38, nI_lt0, if_f, nI_leI, q_isHead, q_isSpan2, g1, g2, xbk_i, xbk_v, bI_0, Bool.true_eq_false, if_false, nI_ltI, if_t, O.f2, B.g0, B.g1, Option.bind_some, q_numberOf B.L, hN, oI_none, m4_lt0, if_true, q_rowsB B, q_rowsOfSpan, hrw, nI_add]
        rfl
