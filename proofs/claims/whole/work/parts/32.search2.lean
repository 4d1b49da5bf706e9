/-! THE SEARCH of the class -/
section TbR
variable {h : XH} {t : Nat} {l : List Rl} {σ : Sl} {o : Option (Nat × Nat)}
theorem Tb.k (T : Tb h t l σ o) : xcls h (.ref t) = some 5 := by
  obtain ⟨R, P, C, V, T, -⟩ := T
  exact T.c
theorem Tb.same {h' : XH} (T : Tb h t l σ o) {lo hi : Nat} (s : Same h h' lo hi) (hd : t + 5 ≤ lo ∨ hi ≤ t) : Tb h' t l σ o := by
  obtain ⟨R, P, C, V, T, r⟩ := T
  exact ⟨R, P, C, V, T.same s hd, r⟩
theorem Tb.congr {σ' : Sl} (T : Tb h t l σ o) (hs : ∀ s, s < 16 → σ' s = σ s) : Tb h t l σ' o := by
  obtain ⟨R, P, C, V, T, r1, r2⟩ := T
  exact ⟨R, P, C, V, T, fun s h1 => by rw [hs s h1]; exact r1 s h1, r2⟩
theorem q_emB (hv : ∀ q ∈ l, vr q) (T : Tb h t l σ o) {d s : Nat} (hs : s < 16) : xc XP d 46 [.ref t, .int (nI s)] h = some (some (.int (bI (emA σ s))), h) := by
  obtain ⟨R, P, C, V, T, r1, r2⟩ := T
  rw [q_isEmpty T (by omega), slIs_emp hv (r1 s hs)]
  rfl
theorem q_flB (hv : ∀ q ∈ l, vr q) (T : Tb h t l σ o) {d s : Nat} {x : Nat × Nat} (hs : s < 16) (hx : σ s = some x) : xc XP (d + 1) 55 [.ref t, .int (nI s)] h = some (some (.int (nI (flA l σ x) + (-1))), h) := by
  obtain ⟨R, P, C, V, T, r1, r2⟩ := T
  rw [q_floorOf T (by omega), flN_eq hv r1 (by have := r1 s hs; rw [hx] at this; exact this)]
theorem q_ceB (hv : ∀ q ∈ l, vr q) (T : Tb h t l σ o) {d s : Nat} {x : Nat × Nat} (hs : s < 16) (hx : σ s = some x) : xc XP (d + 1) 56 [.ref t, .int (nI s)] h = some (some (.int (nI (ceA l σ x))), h) := by
  obtain ⟨R, P, C, V, T, r1, r2⟩ := T
  rw [q_ceilingOf T (by omega), ceN_eq hv r1 (by have := r1 s hs; rw [hx] at this; exact this)]
theorem q_flW {w : Nat × Nat} (hv : ∀ q ∈ l, vr q) (T : Tb h t l σ (some w)) {d : Nat} : xc XP (d + 1) 55 [.ref t, .int (nI 16)] h = some (some (.int (nI (flA l σ w) + (-1))), h) := by
  obtain ⟨R, P, C, V, T, r1, r2⟩ := T
  rw [q_floorOf T (by omega), flN_eq hv r1 r2]
theorem q_ceW {w : Nat × Nat} (hv : ∀ q ∈ l, vr q) (T : Tb h t l σ (some w)) {d : Nat} : xc XP (d + 1) 56 [.ref t, .int (nI 16)] h = some (some (.int (nI (ceA l σ w))), h) := by
  obtain ⟨R, P, C, V, T, r1, r2⟩ := T
  rw [q_ceilingOf T (by omega), ceN_eq hv r1 r2]
theorem q_loW {w : Nat × Nat} (hv : ∀ q ∈ l, vr q) (T : Tb h t l σ (some w)) {d : Nat} : xc XP (d + 2) 58 [.ref t, .int (nI 16)] h = some (some (.int (oI (loA l σ w))), h) := by
  obtain ⟨R, P, C, V, T, r1, r2⟩ := T
  have hc := ceA_le l σ w
  rw [q_lowestOpen T (by omega), flN_eq hv r1 r2, ceN_eq hv r1 r2]
  unfold loA
  rw [fup_congr (fun j h1 h2 => slIs_emp hv (r1 j (by omega)))]
  rfl
theorem rwVC (q : Rl) (p : Nat) : rwV q p &&& rwC q p = rwV q p := vwT_c q _
theorem q_shB (T : Tb h t l σ o) {d f g : Nat} {x : Nat × Nat} (hf : f < 16) (hg : g < 16) (hfg : f ≠ g) (hx : σ f = some x) : ∃ h', xc XP (d + 1) 50 [.ref t, .int (nI f), .int (nI g)] h = some (none, h') ∧ Tb h' t l (mvS σ f g) o ∧ Same h h' (t + 1) (t + 5) := by
  obtain ⟨R, P, C, V, T, r1, r2⟩ := T
  obtain ⟨h1, e1, T1, s1⟩ := q_shift T (d := d) (f := f) (g := g) (by omega) (by omega)
  refine ⟨h1, e1, ⟨_, _, _, _, T1, ?_, ?_⟩, s1⟩
  · intro s hs
    unfold mvS
    by_cases a1 : s = f
    · rw [if_pos a1, a1]; exact upd_s
    · rw [if_neg a1]
      by_cases a2 : s = g
      · rw [if_pos a2, a2, hx]
        have q := r1 f hf
        rw [hx] at q
        obtain ⟨q1, q2, q3, q4, q5, q6⟩ := q
        exact ⟨q1, q2, by rw [upd_n (by omega), upd_s]; exact q3, by rw [upd_s]; exact q4, by rw [upd_s]; exact q5, by rw [upd_s, q6, q5, nx_and, rwVC]⟩
      · rw [if_neg a2]
        exact (r1 s hs).to (by rw [upd_n a1, upd_n a2]) (by rw [upd_n a2]) (by rw [upd_n a2]) (by rw [upd_n a2])
  · exact r2.to (by rw [upd_n (by omega), upd_n (by omega)]) (by rw [upd_n (by omega)]) (by rw [upd_n (by omega)]) (by rw [upd_n (by omega)])
theorem q_inB {w : Nat × Nat} (T : Tb h t l σ (some w)) {d g : Nat} (hg : g < 16) : ∃ h', xc XP (d + 1) 50 [.ref t, .int (nI 16), .int (nI g)] h = some (none, h') ∧ Tb h' t l (ptS σ g w) none ∧ Same h h' (t + 1) (t + 5) := by
  obtain ⟨R, P, C, V, T, r1, r2⟩ := T
  obtain ⟨h1, e1, T1, s1⟩ := q_shift T (d := d) (f := 16) (g := g) (by omega) (by omega)
  refine ⟨h1, e1, ⟨_, _, _, _, T1, ?_, ?_⟩, s1⟩
  · intro s hs
    unfold ptS
    by_cases a2 : s = g
    · rw [if_pos a2, a2]
      obtain ⟨q1, q2, q3, q4, q5, q6⟩ := r2
      exact ⟨q1, q2, by rw [upd_n (by omega), upd_s]; exact q3, by rw [upd_s]; exact q4, by rw [upd_s]; exact q5, by rw [upd_s, q6, q5, nx_and, rwVC]⟩
    · rw [if_neg a2]
      exact (r1 s hs).to (by rw [upd_n (by omega), upd_n a2]) (by rw [upd_n a2]) (by rw [upd_n a2]) (by rw [upd_n a2])
  · exact upd_s
end TbR
theorem mvS_back {σ : Sl} {f t : Nat} (hft : f ≠ t) (ht : σ t = none) : mvS (mvS σ f t) t f = σ := by
  funext s
  unfold mvS
  by_cases a1 : s = t
  · rw [if_pos a1, a1, ht]
  · rw [if_neg a1]
    by_cases a2 : s = f
    · rw [if_pos a2, if_neg (Ne.symm hft), if_pos rfl, a2]
    · rw [if_neg a2, if_neg a2, if_neg a1]
def SrR (h : XH) (t g : Nat) (l : List Rl) (w : Nat × Nat) (σ : Sl) (ms : Mvs) (o : Option (Sl × Mvs)) : Prop := match o with
  | some r => Tb h t l r.1 none ∧ Log h g (ms ++ r.2)
  | none => Tb h t l σ (some w) ∧ Log h g ms
def TG (t g i : Nat) : Prop := (t < i ∧ i < t + 5) ∨ (g ≤ i ∧ i < g + 3)
theorem TG.a {h h' : XH} {t g : Nat} (s : Same h h' (t + 1) (t + 5)) : Dif h h' (TG t g) := s.dif (fun i h1 h2 => Or.inl ⟨by omega, h2⟩)
theorem TG.b {h h' : XH} {t g : Nat} (s : Same h h' g (g + 3)) : Dif h h' (TG t g) := s.dif (fun i h1 h2 => Or.inr ⟨by omega, h2⟩)
def ByOk (t g : Nat) (l : List Rl) (w : Nat × Nat) (k e : Nat) : Prop := ∀ (σ : Sl) (ms : Mvs) (h : XH), Tb h t l σ (some w) → Log h g ms → ms.length + k ≤ 18 → (∀ j, j < k → srch l w j σ = none) →
  ∃ h', xc XP e 106 [.ref t, .ref g, .int (nI k)] h = some (some (.int (bI (srch l w k σ).isSome)), h') ∧ SrR h' t g l w σ ms (srch l w k σ) ∧ Dif h h' (TG t g)
section SrchR
variable {t g : Nat} {l : List Rl} {w : Nat × Nat}
theorem by_0 (hv : ∀ q ∈ l, vr q) (hg : t + 5 ≤ g ∨ g + 3 ≤ t) {d : Nat} : ByOk t g l w 0 (d + 3) := by
  intro σ ms h T L hl hk
  have c0 := T.k
  have hc := ceA_le l σ w
  rw [n_X7_comesInBy]
  unfold srch
  cases hq : loA l σ w with
  | none =>
    refine ⟨h, ?_, ⟨T, L⟩, Dif.refl _ _⟩
    simp (disch := first | assumption | omega) only [e_X7_comesInBy_0, e_X7_comesInBy_1, e_X7_comesInBy_2, e_X7_comesInBy_3, e_X7_comesInBy_4, e_X7_comesInBy_5, e_X7_comesInBy_6, e_X7_comesInBy_7, e_X7_comesInBy_8, e_X7_comesInBy_9, e_X7_comesInBy_10, e_X7_comesInBy_11, e_X7_comesInBy_12, e_X7_comesInBy_13, e_X7_comesInBy_14, e_X7_comesInBy_15, e_X7_comesInBy_16, e_X7_comesInBy_17, nI_ltI, if_f, q_loW hv T, xbk_i, hq, oI_none, m4_lt0, if_true, rk_0]
    rfl
  | some s =>
    have hs : s < 16 := by have q1 := (fup_some.mp hq).1; have := (fup_some.mp hq).2.1; omega
    obtain ⟨h1, e1, T1, s1⟩ := q_inB T (d := d + 1) hs
    refine ⟨h1, ?_, ⟨T1, by simpa using L.same s1 (by omega)⟩, TG.a s1⟩
    simp (disch := first | assumption | omega) only [e_X7_comesInBy_0, e_X7_comesInBy_1, e_X7_comesInBy_2, e_X7_comesInBy_3, e_X7_comesInBy_4, e_X7_comesInBy_5, e_X7_comesInBy_6, e_X7_comesInBy_7, e_X7_comesInBy_8, e_X7_comesInBy_9, e_X7_comesInBy_10, e_X7_comesInBy_11, e_X7_comesInBy_12, e_X7_comesInBy_13, e_X7_comesInBy_14, e_X7_comesInBy_15, e_X7_comesInBy_16, e_X7_comesInBy_17, nI_ltI, nI_lt0, if_f, q_loW hv T, xbk_i, xbk_v, hq, oI_some, e1, rk_1, if_true]
    rfl
/-- the moves of one row -/
theorem behind_loop (hv : ∀ q ∈ l, vr q) (hg : t + 5 ≤ g ∨ g + 3 ≤ t) {d k f : Nat} {σ : Sl} {x : Nat × Nat} (hk : k < 10) (hf : f < 16) (hx : σ f = some x) (ih : ByOk t g l w k (d + 3)) {ms : Mvs} (hl : ms.length + (k + 1) ≤ 18) (hN : ∀ j, j < k + 1 → srch l w j σ = none) :
    ∀ (n i : Nat) (h : XH), i + n = ceA l σ x ∨ (n = 0 ∧ ceA l σ x ≤ i ∧ i < 100) → flA l σ x ≤ i → Tb h t l σ (some w) → Log h g ms →
    ∃ h', xe XP (d + 4) 107 (10, [.int (nI f), .ref t, .ref g, .int (nI (k + 1)), .int (nI (ceA l σ x)), .int (nI i)], [], h) = some (some (.int (bI (fso (srM σ (srch l w k) f) i n).isSome)), h') ∧ SrR h' t g l w σ ms (fso (srM σ (srch l w k) f) i n) ∧ Dif h h' (TG t g) := by
  have hce := ceA_le l σ x
  intro n
  induction n with
  | zero =>
    intro i h hi hfi T L
    refine ⟨h, ?_, ⟨T, L⟩, Dif.refl _ _⟩
    simp (disch := first | assumption | omega) only [e_X7_comesInBehindMoveOf_10, e_X7_comesInBehindMoveOf_11, e_X7_comesInBehindMoveOf_12, e_X7_comesInBehindMoveOf_43, e_X7_comesInBehindMoveOf_44, nI_leI, if_t, rk_0]
    rfl
  | succ n ihn =>
    intro i h hi hfi T L
    have hi : i + (n + 1) = ceA l σ x := by omega
    have c0 := T.k
    have c1 := L.c
    rw [fso_succ]
    cases ht : σ i with
    | some y =>
      have hm : srM σ (srch l w k) f i = none := by unfold srM; rw [ht]; rfl
      obtain ⟨h1, e1, r1, d1⟩ := ihn (i + 1) h (by omega) (by omega) T L
      rw [hm]
      refine ⟨h1, ?_, r1, d1⟩
      have hem : emA σ i = false := by unfold emA; rw [ht]; rfl
      rw [e_X7_comesInBehindMoveOf_10]
      simp (disch := first | assumption | omega) only [e_X7_comesInBehindMoveOf_11, e_X7_comesInBehindMoveOf_12, e_X7_comesInBehindMoveOf_13, e_X7_comesInBehindMoveOf_14, e_X7_comesInBehindMoveOf_15, e_X7_comesInBehindMoveOf_16, e_X7_comesInBehindMoveOf_17, e_X7_comesInBehindMoveOf_41, e_X7_comesInBehindMoveOf_42, nI_leI, if_f, q_emB hv T, xbk_i, hem, bI_f, not_true, if_false, nI_add, e1]
    | none =>
      have hfi2 : f ≠ i := by intro e; rw [e, ht] at hx; cases hx
      have hem : emA σ i = true := by unfold emA; rw [ht]; rfl
      obtain ⟨h1, e1, T1, s1⟩ := q_shB T (d := d + 2) hf (show i < 16 by omega) hfi2 hx
      have L1 := L.same s1 (by omega)
      have c2 := L1.c
      obtain ⟨h2, e2, L2, s2⟩ := q_appendL L1 (d := d + 3) (f := f) (t := i) (by omega)
      have T2 := T1.same s2 (by omega)
      obtain ⟨h3, e3, r3, d3⟩ := ih (mvS σ f i) (ms ++ [(f, i)]) h2 T2 L2 (by simp; omega) (fun j hj => srch_step (hN (j + 1) (by omega)) hf hx hfi (by omega) ht)
      have D3 := ((TG.a (g := g) s1).trans (TG.b (t := t) s2)).trans d3
      cases hr : srch l w k (mvS σ f i) with
      | some r =>
        have hm : srM σ (srch l w k) f i = some (r.1, (f, i) :: r.2) := by unfold srM; rw [ht, hr]; rfl
        rw [hr] at e3 r3
        rw [hm]
        refine ⟨h3, ?_, ⟨r3.1, by simpa using r3.2⟩, D3⟩
        simp (disch := first | assumption | omega) only [e_X7_comesInBehindMoveOf_10, e_X7_comesInBehindMoveOf_11, e_X7_comesInBehindMoveOf_12, e_X7_comesInBehindMoveOf_13, e_X7_comesInBehindMoveOf_14, e_X7_comesInBehindMoveOf_15, e_X7_comesInBehindMoveOf_16, e_X7_comesInBehindMoveOf_17, e_X7_comesInBehindMoveOf_18, e_X7_comesInBehindMoveOf_19, e_X7_comesInBehindMoveOf_20, e_X7_comesInBehindMoveOf_21, e_X7_comesInBehindMoveOf_22, e_X7_comesInBehindMoveOf_23, e_X7_comesInBehindMoveOf_24, e_X7_comesInBehindMoveOf_25, e_X7_comesInBehindMoveOf_26, e_X7_comesInBehindMoveOf_27, e_X7_comesInBehindMoveOf_28, e_X7_comesInBehindMoveOf_29, e_X7_comesInBehindMoveOf_30, e_X7_comesInBehindMoveOf_31, e_X7_comesInBehindMoveOf_32, e_X7_comesInBehindMoveOf_33, e_X7_comesInBehindMoveOf_34, nI_leI, if_f, q_emB hv T, xbk_i, xbk_v, hem, bI_0, Bool.true_eq_false, not_false_eq_true, if_true, e1, e2, pk_sub, Nat.add_sub_cancel, e3, Option.isSome_some, if_false, rk_1]
        rfl
      | none =>
        have hm : srM σ (srch l w k) f i = none := by unfold srM; rw [ht, hr]; rfl
        rw [hr] at e3 r3
        have T3 := r3.1
        have L3 := r3.2
        have c3 := L3.c
        obtain ⟨h4, e4, L4, s4⟩ := q_removeLast L3 (d := d + 2)
        have T4 := T3.same s4 (by omega)
        have c4 := T4.k
        obtain ⟨h5, e5, T5, s5⟩ := q_shB T4 (d := d + 2) (f := i) (g := f) (x := x) (by omega) hf (Ne.symm hfi2) (by unfold mvS; rw [if_neg (Ne.symm hfi2), if_pos rfl]; exact hx)
        rw [mvS_back hfi2 ht] at T5
        have L5 := L4.same s5 (by omega)
        obtain ⟨h6, e6, r6, d6⟩ := ihn (i + 1) h5 (by omega) (by omega) T5 L5
        rw [hm]
        refine ⟨h6, ?_, r6, ((D3.trans (TG.b s4)).trans (TG.a s5)).trans d6⟩
        rw [e_X7_comesInBehindMoveOf_10]
        simp (disch := first | assumption | omega) only [e_X7_comesInBehindMoveOf_11, e_X7_comesInBehindMoveOf_12, e_X7_comesInBehindMoveOf_13, e_X7_comesInBehindMoveOf_14, e_X7_comesInBehindMoveOf_15, e_X7_comesInBehindMoveOf_16, e_X7_comesInBehindMoveOf_17, e_X7_comesInBehindMoveOf_18, e_X7_comesInBehindMoveOf_19, e_X7_comesInBehindMoveOf_20, e_X7_comesInBehindMoveOf_21, e_X7_comesInBehindMoveOf_22, e_X7_comesInBehindMoveOf_23, e_X7_comesInBehindMoveOf_24, e_X7_comesInBehindMoveOf_25, e_X7_comesInBehindMoveOf_26, e_X7_comesInBehindMoveOf_27, e_X7_comesInBehindMoveOf_28, e_X7_comesInBehindMoveOf_29, e_X7_comesInBehindMoveOf_30, e_X7_comesInBehindMoveOf_31, e_X7_comesInBehindMoveOf_32, e_X7_comesInBehindMoveOf_33, e_X7_comesInBehindMoveOf_34, e_X7_comesInBehindMoveOf_35, e_X7_comesInBehindMoveOf_36, e_X7_comesInBehindMoveOf_37, e_X7_comesInBehindMoveOf_38, e_X7_comesInBehindMoveOf_39, e_X7_comesInBehindMoveOf_40, e_X7_comesInBehindMoveOf_41, e_X7_comesInBehindMoveOf_42, nI_leI, if_f, q_emB hv T, xbk_i, xbk_v, hem, bI_0, Bool.true_eq_false, not_false_eq_true, if_true, e1, e2, pk_sub, Nat.add_sub_cancel, e3, Option.isSome_none, e4, e5, nI_add, e6]
theorem q_behind (hv : ∀ q ∈ l, vr q) (hg : t + 5 ≤ g ∨ g + 3 ≤ t) {d k f : Nat} {σ : Sl} {x : Nat × Nat} (hk : k < 10) (hf : f < 16) (hx : σ f = some x) (ih : ByOk t g l w k (d + 3)) {ms : Mvs} (hl : ms.length + (k + 1) ≤ 18) (hN : ∀ j, j < k + 1 → srch l w j σ = none) {h : XH} (T : Tb h t l σ (some w)) (L : Log h g ms) :
    ∃ h', xc XP (d + 4) 107 [.int (nI f), .ref t, .ref g, .int (nI (k + 1))] h = some (some (.int (bI (srF l σ (srch l w k) f).isSome)), h') ∧ SrR h' t g l w σ ms (srF l σ (srch l w k) f) ∧ Dif h h' (TG t g) := by
  have c0 := T.k
  have h1 := ceA_le l σ x
  have h2 := flA_le l σ x
  have e0 : srF l σ (srch l w k) f = fso (srM σ (srch l w k) f) (flA l σ x) (ceA l σ x - flA l σ x) := by unfold srF; rw [hx]
  obtain ⟨h', e, r⟩ := behind_loop hv hg hk hf hx ih hl hN (ceA l σ x - flA l σ x) (flA l σ x) h (by omega) (by omega) T L
  rw [e0]
  refine ⟨h', ?_, r⟩
  rw [n_X7_comesInBehindMoveOf]
  simp (disch := first | assumption | omega) only [e_X7_comesInBehindMoveOf_0, e_X7_comesInBehindMoveOf_1, e_X7_comesInBehindMoveOf_2, e_X7_comesInBehindMoveOf_3, e_X7_comesInBehindMoveOf_4, e_X7_comesInBehindMoveOf_5, e_X7_comesInBehindMoveOf_6, e_X7_comesInBehindMoveOf_7, e_X7_comesInBehindMoveOf_8, e_X7_comesInBehindMoveOf_9, q_ceB hv T hf hx, q_flB hv T hf hx, xbk_i, nI_m1p1, e]
theorem by_loop (hv : ∀ q ∈ l, vr q) (hg : t + 5 ≤ g ∨ g + 3 ≤ t) {d k lo hi : Nat} {σ : Sl} (hk : k < 10) (hhi : hi < 16) (ih : ByOk t g l w k (d + 3)) {ms : Mvs} (hl : ms.length + (k + 1) ≤ 18) (hN : ∀ j, j < k + 1 → srch l w j σ = none) {a3 a6 : Value} :
    ∀ (n i : Nat) (h : XH), i + n = hi + 1 → Tb h t l σ (some w) → Log h g ms →
    ∃ h', xe XP (d + 5) 106 (47, [.ref t, .ref g, .int (nI (k + 1)), a3, .int (nI hi), .int (nI i), a6], [], h) = some (some (.int (bI (fso (srF l σ (srch l w k)) i n).isSome)), h') ∧ SrR h' t g l w σ ms (fso (srF l σ (srch l w k)) i n) ∧ Dif h h' (TG t g) := by
  intro n
  induction n with
  | zero =>
    intro i h hi T L
    refine ⟨h, ?_, ⟨T, L⟩, Dif.refl _ _⟩
    simp (disch := first | assumption | omega) only [e_X7_comesInBy_47, e_X7_comesInBy_48, e_X7_comesInBy_49, e_X7_comesInBy_64, e_X7_comesInBy_65, nI_ltI, if_t, rk_0]
    rfl
  | succ n ihn =>
    intro i h hi T L
    have c0 := T.k
    rw [fso_succ]
    cases hx : σ i with
    | none =>
      have hm : srF l σ (srch l w k) i = none := by unfold srF; rw [hx]
      have hem : emA σ i = true := by unfold emA; rw [hx]; rfl
      obtain ⟨h1, e1, r1, d1⟩ := ihn (i + 1) h (by omega) T L
      rw [hm]
      refine ⟨h1, ?_, r1, d1⟩
      rw [e_X7_comesInBy_47]
      simp (disch := first | assumption | omega) only [e_X7_comesInBy_48, e_X7_comesInBy_49, e_X7_comesInBy_50, e_X7_comesInBy_51, e_X7_comesInBy_52, e_X7_comesInBy_53, e_X7_comesInBy_62, e_X7_comesInBy_63, nI_ltI, if_f, q_emB hv T, xbk_i, hem, bI_0, Bool.true_eq_false, not_false_eq_true, if_true, nI_add, e1]
    | some x =>
      have hem : emA σ i = false := by unfold emA; rw [hx]; rfl
      obtain ⟨h1, e1, r1, d1⟩ := q_behind hv hg (d := d) hk (show i < 16 by omega) hx ih hl hN T L
      cases hr : srF l σ (srch l w k) i with
      | some r =>
        rw [hr] at e1 r1
        refine ⟨h1, ?_, r1, d1⟩
        simp (disch := first | assumption | omega) only [e_X7_comesInBy_47, e_X7_comesInBy_48, e_X7_comesInBy_49, e_X7_comesInBy_50, e_X7_comesInBy_51, e_X7_comesInBy_52, e_X7_comesInBy_53, e_X7_comesInBy_54, e_X7_comesInBy_55, e_X7_comesInBy_56, e_X7_comesInBy_57, e_X7_comesInBy_58, e_X7_comesInBy_59, e_X7_comesInBy_60, e_X7_comesInBy_61, nI_ltI, if_f, q_emB hv T, xbk_i, hem, bI_0, Bool.true_eq_false, not_true, if_false, e1, Option.isSome_some, rk_1, if_true]
        rfl
      | none =>
        rw [hr] at e1 r1
        obtain ⟨h2, e2, r2, d2⟩ := ihn (i + 1) h1 (by omega) r1.1 r1.2
        refine ⟨h2, ?_, r2, d1.trans d2⟩
        rw [e_X7_comesInBy_47]
        simp (disch := first | assumption | omega) only [e_X7_comesInBy_48, e_X7_comesInBy_49, e_X7_comesInBy_50, e_X7_comesInBy_51, e_X7_comesInBy_52, e_X7_comesInBy_53, e_X7_comesInBy_54, e_X7_comesInBy_55, e_X7_comesInBy_56, e_X7_comesInBy_57, e_X7_comesInBy_58, e_X7_comesInBy_59, e_X7_comesInBy_60, e_X7_comesInBy_61, e_X7_comesInBy_62, e_X7_comesInBy_63, nI_ltI, if_f, q_emB hv T, xbk_i, hem, bI_0, not_true, if_false, e1, Option.isSome_none, if_true, nI_add, e2]
theorem by_s (hv : ∀ q ∈ l, vr q) (hg : t + 5 ≤ g ∨ g + 3 ≤ t) {d k : Nat} (hk : k < 10) (ih : ByOk t g l w k (d + 3)) : ByOk t g l w (k + 1) (d + 5) := by
  intro σ ms h T L hl hN
  have c0 := T.k
  have h1 := ceA_le l σ w
  have h2 := flA_le l σ w
  rw [n_X7_comesInBy]
  have e0 : srch l w (k + 1) σ = fso (srF l σ (srch l w k)) 0 16 := rfl
  by_cases hk0 : k = 0
  · subst hk0
    have h0 : loA l σ w = none := by have := hN 0 (by omega); unfold srch at this; simpa using this
    have e1 : srch l w (0 + 1) σ = fso (srF l σ (srch l w 0)) (min (flA l σ w - 1) (ceA l σ w)) (min 15 (max (flA l σ w - 1) (ceA l σ w)) + 1 - min (flA l σ w - 1) (ceA l σ w)) := by
      rw [e0]
      exact fso_cut (by omega) (fun j hj => srF_prune h0 (by omega) (Or.inl hj)) (fun j hj hj2 => srF_prune h0 (by omega) (Or.inr (by omega)))
    obtain ⟨h', e, r⟩ := by_loop hv hg (lo := 0) (hi := min 15 (max (flA l σ w - 1) (ceA l σ w))) (a3 := .int (nI (min (flA l σ w - 1) (ceA l σ w)))) (a6 := .int (nI (ceA l σ w))) hk (by omega) ih hl hN (min 15 (max (flA l σ w - 1) (ceA l σ w)) + 1 - min (flA l σ w - 1) (ceA l σ w)) (min (flA l σ w - 1) (ceA l σ w)) h (by omega) T L
    rw [e1]
    refine ⟨h', ?_, r⟩
    have hlo : (if nI 0 < (if nI (ceA l σ w) < nI (flA l σ w) + (-1) then nI (ceA l σ w) else nI (flA l σ w) + (-1)) then (if nI (ceA l σ w) < nI (flA l σ w) + (-1) then nI (ceA l σ w) else nI (flA l σ w) + (-1)) else nI 0) = nI (min (flA l σ w - 1) (ceA l σ w)) := by
      generalize flA l σ w = a at *
      generalize ceA l σ w = b at *
      clear e r e0 e1 h0
      revert a b
      decide
    have hhi : (if (if nI (flA l σ w) + (-1) < nI (ceA l σ w) then nI (ceA l σ w) else nI (flA l σ w) + (-1)) < nI 15 then (if nI (flA l σ w) + (-1) < nI (ceA l σ w) then nI (ceA l σ w) else nI (flA l σ w) + (-1)) else nI 15) = nI (min 15 (max (flA l σ w - 1) (ceA l σ w))) := by
      generalize flA l σ w = a at *
      generalize ceA l σ w = b at *
      clear e r e0 e1 h0
      revert a b
      decide
    simp (disch := first | assumption | omega) only [e_X7_comesInBy_0, e_X7_comesInBy_1, e_X7_comesInBy_18, e_X7_comesInBy_19, e_X7_comesInBy_20, e_X7_comesInBy_21, e_X7_comesInBy_22, e_X7_comesInBy_23, e_X7_comesInBy_24, e_X7_comesInBy_25, e_X7_comesInBy_26, e_X7_comesInBy_27, e_X7_comesInBy_28, e_X7_comesInBy_29, e_X7_comesInBy_30, e_X7_comesInBy_31, e_X7_comesInBy_32, e_X7_comesInBy_33, e_X7_comesInBy_34, e_X7_comesInBy_35, e_X7_comesInBy_36, e_X7_comesInBy_37, e_X7_comesInBy_38, e_X7_comesInBy_39, e_X7_comesInBy_40, e_X7_comesInBy_41, e_X7_comesInBy_42, e_X7_comesInBy_43, e_X7_comesInBy_44, e_X7_comesInBy_45, e_X7_comesInBy_46, nI_ltI, if_t, not_true, if_false, if_f, q_flW hv T, q_ceW hv T, xbk_i, q_min, q_max, Nat.zero_add, hlo, hhi]
    exact e
  · obtain ⟨h', e, r⟩ := by_loop hv hg (lo := 0) (hi := 15) (a3 := .int (nI 0)) (a6 := .null) hk (by omega) ih hl hN 16 0 h (by omega) T L
    rw [e0]
    refine ⟨h', ?_, r⟩
    have hne : ¬ nI (k + 1) = nI 1 := by rw [nI_eq (by omega) (by omega)]; omega
    simp (disch := first | assumption | omega) only [e_X7_comesInBy_0, e_X7_comesInBy_1, e_X7_comesInBy_18, e_X7_comesInBy_19, e_X7_comesInBy_20, e_X7_comesInBy_21, e_X7_comesInBy_22, e_X7_comesInBy_23, e_X7_comesInBy_24, e_X7_comesInBy_45, e_X7_comesInBy_46, nI_ltI, if_t, hne, not_false_eq_true, if_true]
    exact e
def srA (l : List Rl) (w : Nat × Nat) (σ : Sl) : Option (Sl × Mvs) := fso (fun k => srch l w k σ) 0 4
theorem by_all (hv : ∀ q ∈ l, vr q) (hg : t + 5 ≤ g ∨ g + 3 ≤ t) {d k : Nat} (hk : k ≤ 3) : ByOk t g l w k (d + 9) := by
  have a0 : ∀ d, ByOk t g l w 0 (d + 3) := fun d => by_0 hv hg
  have a1 : ∀ d, ByOk t g l w 1 (d + 5) := fun d => by_s hv hg (k := 0) (by omega) (a0 d)
  have a2 : ∀ d, ByOk t g l w 2 (d + 7) := fun d => by_s hv hg (k := 1) (d := d + 2) (by omega) (a1 d)
  have a3 : ∀ d, ByOk t g l w 3 (d + 9) := fun d => by_s hv hg (k := 2) (d := d + 4) (by omega) (a2 d)
  rcases (show k = 0 ∨ k = 1 ∨ k = 2 ∨ k = 3 by omega) with e | e | e | e <;> subst e
  · exact a0 (d + 6)
  · exact a1 (d + 4)
  · exact a2 (d + 2)
  · exact a3 d
theorem q_letComeIn (hv : ∀ q ∈ l, vr q) (hg : t + 5 ≤ g ∨ g + 3 ≤ t) {d : Nat} {σ : Sl} {ms : Mvs} (hl : ms.length + 3 ≤ 18) {h : XH} (T : Tb h t l σ (some w)) (L : Log h g ms) :
    ∃ h', xc XP (d + 10) 105 [.ref t, .ref g] h = some (some (.int (bI (srA l w σ).isSome)), h') ∧ SrR h' t g l w σ ms (srA l w σ) ∧ Dif h h' (TG t g) := by
  have key : ∀ (n i : Nat) (h : XH), i + n = 4 → (∀ j, j < i → srch l w j σ = none) → Tb h t l σ (some w) → Log h g ms →
      ∃ h', xe XP (d + 10) 105 (2, [.ref t, .ref g, .int (nI i)], [], h) = some (some (.int (bI (fso (fun k => srch l w k σ) i n).isSome)), h') ∧ SrR h' t g l w σ ms (fso (fun k => srch l w k σ) i n) ∧ Dif h h' (TG t g) := by
    intro n
    induction n with
    | zero =>
      intro i h hi hN T L
      refine ⟨h, ?_, ⟨T, L⟩, Dif.refl _ _⟩
      simp (disch := first | assumption | omega) only [e_X7_letComeIn_2, e_X7_letComeIn_3, e_X7_letComeIn_4, e_X7_letComeIn_14, e_X7_letComeIn_15, nI_ltI, if_t, rk_0]
      rfl
    | succ n ihn =>
      intro i h hi hN T L
      rw [fso_succ]
      obtain ⟨h1, e1, r1, d1⟩ := by_all hv hg (d := d) (k := i) (by omega) σ ms h T L (by omega) hN
      cases hr : srch l w i σ with
      | some r =>
        rw [hr] at e1 r1
        refine ⟨h1, ?_, r1, d1⟩
        simp (disch := first | assumption | omega) only [e_X7_letComeIn_2, e_X7_letComeIn_3, e_X7_letComeIn_4, e_X7_letComeIn_5, e_X7_letComeIn_6, e_X7_letComeIn_7, e_X7_letComeIn_8, e_X7_letComeIn_9, e_X7_letComeIn_10, e_X7_letComeIn_11, nI_ltI, if_f, e1, xbk_i, Option.isSome_some, bI_0, Bool.true_eq_false, if_false, rk_1, if_true]
        rfl
      | none =>
        rw [hr] at e1 r1
        obtain ⟨h2, e2, r2, d2⟩ := ihn (i + 1) h1 (by omega) (fun j hj => by
          by_cases g : j = i
          · rw [g]; exact hr
          · exact hN j (by omega)) r1.1 r1.2
        refine ⟨h2, ?_, r2, d1.trans d2⟩
        rw [e_X7_letComeIn_2]
        simp (disch := first | assumption | omega) only [e_X7_letComeIn_3, e_X7_letComeIn_4, e_X7_letComeIn_5, e_X7_letComeIn_6, e_X7_letComeIn_7, e_X7_letComeIn_8, e_X7_letComeIn_9, e_X7_letComeIn_10, e_X7_letComeIn_11, e_X7_letComeIn_12, e_X7_letComeIn_13, nI_ltI, if_f, e1, xbk_i, Option.isSome_none, bI_0, if_true, nI_add, e2]
  obtain ⟨h', e, r⟩ := key 4 0 h (by omega) (fun j hj => absurd hj (by omega)) T L
  refine ⟨h', ?_, r⟩
  rw [n_X7_letComeIn]
  simp only [e_X7_letComeIn_0, e_X7_letComeIn_1]
  exact e
end SrchR
