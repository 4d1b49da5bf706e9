/-! TRYING a rule -/
theorem nn_of {x : Int32} (h : nI 0 ≤ x) : ∃ n, n < 2 ^ 31 ∧ x = nI n := by
  have h1 : (nI 0).toInt ≤ x.toInt := Int32.le_iff_toInt_le.mp h
  rw [nI_toInt (by decide)] at h1
  have h2 := x.toInt_lt
  refine ⟨x.toInt.toNat, by omega, Int32.toInt_inj.mp ?_⟩
  rw [nI_toInt (by omega)]
  omega
def xN (x : Int32) : Nat := x.toNatClampNeg
theorem xN_nI {n : Nat} (h : n < 2 ^ 31) : xN (nI n) = n := nI_clamp h
def hdI (b : Int32) : Bool := decide (nI 0 ≤ b ∧ b ≤ nI 222 ∧ xN b / 10 % 10 ≤ 2 ∧ xN b % 10 ≤ 2)
def spI (c d : Int32) : Bool := decide (nI 0 ≤ c ∧ c ≤ d ∧ d < nI 16)
def vrI (a b c d e : Int32) : Option Rl := if (nI 0 ≤ a ∧ a < nI 100) ∧ hdI b = true ∧ spI c d = true ∧ (nI 0 ≤ e ∧ e < nI 10) then some (xN a, xN b, xN c, xN d, xN e) else none
theorem vrI_some {a b c d e : Int32} {q : Rl} (h : vrI a b c d e = some q) : vr q ∧ a = nI q.1 ∧ b = nI q.2.1 ∧ c = nI q.2.2.1 ∧ d = nI q.2.2.2.1 ∧ e = nI q.2.2.2.2 ∧ hdI b = true ∧ spI c d = true := by
  unfold vrI at h
  split at h
  · next hc =>
    obtain ⟨⟨a1, a2⟩, b1, c1, e1, e2⟩ := hc
    have b1' := b1
    have c1' := c1
    unfold hdI at b1'
    unfold spI at c1'
    simp only [decide_eq_true_eq] at b1' c1'
    obtain ⟨b2, b3, b4, b5⟩ := b1'
    obtain ⟨c2, c3, c4⟩ := c1'
    obtain ⟨n1, l1, rfl⟩ := nn_of a1
    obtain ⟨n2, l2, rfl⟩ := nn_of b2
    obtain ⟨n3, l3, rfl⟩ := nn_of c2
    obtain ⟨n4, l4, rfl⟩ := nn_of (Int32.le_trans c2 c3)
    obtain ⟨n5, l5, rfl⟩ := nn_of e1
    rw [nI_ltI l1 (by decide)] at a2
    rw [nI_leI l2 (by decide)] at b3
    rw [nI_leI l3 l4] at c3
    rw [nI_ltI l4 (by decide)] at c4
    rw [nI_ltI l5 (by decide)] at e2
    rw [xN_nI l2] at b4 b5
    cases h
    simp only [xN_nI l1, xN_nI l2, xN_nI l3, xN_nI l4, xN_nI l5]
    exact ⟨⟨a2, ⟨b3, b4, b5⟩, c3, c4, e2⟩, trivial, trivial, trivial, trivial, trivial, b1, c1⟩
  · cases h
theorem q_isHead {d : Nat} (b : Int32) {h : XH} : xc XP d 100 [.int b] h = some (some (.int (bI (hdI b))), h) := by
  rw [n_X7_isHead]
  by_cases h1 : b < nI 0
  · have : hdI b = false := decide_eq_false (fun hh => absurd h1 (Int32.not_lt.mpr hh.1))
    simp only [e_X7_isHead_0, e_X7_isHead_1, e_X7_isHead_19, e_X7_isHead_20, h1, if_true, rk_0, this]
    rfl
  · obtain ⟨n, hn, rfl⟩ := nn_of (Int32.not_lt.mp h1)
    have h10 : n / 10 < 2 ^ 31 := by omega
    have hm : n / 10 % 10 < 2 ^ 31 := by omega
    have hm2 : n % 10 < 2 ^ 31 := by omega
    have e : hdI (nI n) = decide (n ≤ 222 ∧ n / 10 % 10 ≤ 2 ∧ n % 10 ≤ 2) := by
      unfold hdI
      apply decide_eq_decide.mpr
      rw [nI_leI (by decide) hn, nI_leI hn (by decide), xN_nI hn]
      omega
    rw [e]
    simp (disch := first | assumption | omega) only [e_X7_isHead_0, e_X7_isHead_1, e_X7_isHead_2, e_X7_isHead_3, e_X7_isHead_4, e_X7_isHead_5, e_X7_isHead_6, e_X7_isHead_7, e_X7_isHead_8, e_X7_isHead_9, e_X7_isHead_10, e_X7_isHead_11, e_X7_isHead_12, e_X7_isHead_13, e_X7_isHead_14, e_X7_isHead_15, e_X7_isHead_16, e_X7_isHead_17, e_X7_isHead_18, e_X7_isHead_19, e_X7_isHead_20, h1, if_false, jdiv, jrem, nI_ltI, rk_0, rk_1, if_true]
    by_cases g1 : 222 < n
    · rw [if_pos g1, decide_eq_false (by omega)]; rfl
    · rw [if_neg g1]
      by_cases g2 : 2 < n / 10 % 10
      · rw [if_pos g2, decide_eq_false (by omega)]; rfl
      · rw [if_neg g2]
        by_cases g3 : 2 < n % 10
        · rw [if_pos g3, decide_eq_false (by omega)]; rfl
        · rw [if_neg g3, decide_eq_true (by omega)]; rfl
theorem q_isSpan2 {d : Nat} (f t : Int32) {h : XH} : xc XP d 101 [.int f, .int t] h = some (some (.int (bI (spI f t))), h) := q_isSpan f t
/-- arguments that are no rule -/
theorem try_bad {d c : Nat} {a b f t e : Int32} {h : XH} (hn : vrI a b f t e = none) : xc XP (d + 1) 104 [.ref c, .int a, .int b, .int f, .int t, .int e] h = some (some (.int (-1)), h) := by
  rw [n_X7_tryRule]
  simp only [e_X7_tryRule_0, e_X7_tryRule_1, e_X7_tryRule_2, e_X7_tryRule_3, e_X7_tryRule_4, e_X7_tryRule_5, e_X7_tryRule_6, e_X7_tryRule_7, e_X7_tryRule_8, e_X7_tryRule_9, e_X7_tryRule_10, e_X7_tryRule_11, e_X7_tryRule_12, e_X7_tryRule_13, e_X7_tryRule_14, e_X7_tryRule_15, e_X7_tryRule_16, e_X7_tryRule_17, e_X7_tryRule_18, q_isHead, q_isSpan2, xbk_i, bI_0]
  by_cases g1 : a < nI 0
  · simp only [g1, if_true]
  · by_cases g2 : nI 100 ≤ a
    · simp only [g1, g2, if_true, if_false]
    · cases g3 : hdI b with
      | false => simp only [g1, g2, if_true, if_false]
      | true =>
        cases g4 : spI f t with
        | false => simp only [g1, g2, if_true, if_false, Bool.true_eq_false]
        | true =>
          by_cases g5 : e < nI 0
          · simp only [g1, g2, g5, if_true, if_false, Bool.true_eq_false]
          · by_cases g6 : e < nI 10
            · unfold vrI at hn
              rw [if_pos ⟨⟨Int32.not_lt.mp g1, Int32.not_le.mp g2⟩, g3, g4, Int32.not_lt.mp g5, g6⟩] at hn
              cases hn
            · simp only [g1, g2, g5, g6, if_false, Bool.true_eq_false]
def rws (σ : Sl) : Nat := ct (fun s => (σ s).isSome) 16
def cmS (l : List Rl) (r : Nat) : Nat → Nat → Sl → Mvs → Option (Sl × Mvs)
  | 0, _, σ, ms => some (σ, ms)
  | n + 1, p, σ, ms => match srA l (r, p) σ with
    | none => none
    | some x => cmS l r n (p + 1) x.1 (ms ++ x.2)
def trS (l : List Rl) (σ : Sl) (q : Rl) : Option (Sl × Mvs) := if rws σ + rwR q ≤ 16 then cmS (l ++ [q]) l.length (rwR q) 0 σ [] else none
theorem fso_some {α : Type} {f : Nat → Option α} {a : α} : ∀ {n i : Nat}, fso f i n = some a → ∃ j, i ≤ j ∧ j < i + n ∧ f j = some a := by
  intro n
  induction n with
  | zero => intro i h; cases h
  | succ n ih =>
    intro i h
    rw [fso_succ] at h
    cases hf : f i with
    | some b => rw [hf] at h; exact ⟨i, by omega, by omega, by rw [hf]; exact h⟩
    | none =>
      rw [hf] at h
      obtain ⟨j, h1, h2, h3⟩ := ih h
      exact ⟨j, by omega, by omega, h3⟩
theorem srch_len {l : List Rl} {w : Nat × Nat} : ∀ {k : Nat} {σ : Sl} {r : Sl × Mvs}, srch l w k σ = some r → r.2.length = k := by
  intro k
  induction k with
  | zero =>
    intro σ r h
    unfold srch at h
    cases hq : loA l σ w with
    | none => rw [hq] at h; cases h
    | some s => rw [hq] at h; cases h; rfl
  | succ k ih =>
    intro σ r h
    obtain ⟨f, -, -, hf⟩ := fso_some (show fso (srF l σ (srch l w k)) 0 16 = some r from h)
    unfold srF at hf
    cases hx : σ f with
    | none => rw [hx] at hf; cases hf
    | some x =>
      rw [hx] at hf
      obtain ⟨t, -, -, ht⟩ := fso_some hf
      unfold srM at ht
      split at ht
      · cases ht
      · cases hr : srch l w k (mvS σ f t) with
        | none => rw [hr] at ht; cases ht
        | some y =>
          rw [hr] at ht
          cases ht
          simp [ih hr]
theorem srA_len {l : List Rl} {w : Nat × Nat} {σ : Sl} {r : Sl × Mvs} (h : srA l w σ = some r) : r.2.length ≤ 3 := by
  obtain ⟨k, h1, h2, h3⟩ := fso_some h
  have := srch_len h3
  omega
/-- the slots of a board with the row that waits -/
theorem Brd.put {h : XH} {b : Nat} {l : List Rl} {σ : Sl} (B : Brd h b l σ) {d j p : Nat} (hj : j < l.length) (hp : p < rwR (rlN l j)) : ∃ h', xc XP (d + 1) 3 [.ref b, .int (nI 16), .int (nI j), .int (nI p), .int (nI (tlN (rlN l j) p))] h = some (none, h') ∧ h'[b]? = some (.inl (0, [.ref (b + 1), .ref (b + 9)])) ∧ Lst h' (b + 1) l ∧ Tb h' (b + 9) l σ (some (j, p)) ∧ Same h h' (b + 10) (b + 14) := by
  obtain ⟨R, P, C, V, B, hs⟩ := B
  have hv := B.L.v hj
  have h1 := tl_le hv hp
  have h2 := rwF_le 6 (rlN l j).2.2.1 (rlN l j).2.2.2.1
  have h3 : rwR (rlN l j) ≤ 6 := h2
  have h4 := hv.2.2.2.1
  obtain ⟨h', e, B', s'⟩ := q_putRow B (d := d) (k := 16) (j := j) (p := p) (u := tlN (rlN l j) p) (by omega) hj (by omega) (by omega)
  refine ⟨h', e, B'.1, B'.L, ⟨_, _, _, _, B'.T, fun s h5 => (hs s h5).to (upd_n (by omega)) (upd_n (by omega)) (upd_n (by omega)) (upd_n (by omega)), ?_⟩, s'⟩
  exact ⟨hj, hp, upd_s, upd_s, upd_s, upd_s⟩
theorem Brd.of {h : XH} {b : Nat} {l : List Rl} {σ : Sl} {o : Option (Nat × Nat)} (h1 : h[b]? = some (.inl (0, [.ref (b + 1), .ref (b + 9)]))) (h2 : Lst h (b + 1) l) (h3 : Tb h (b + 9) l σ o) : Brd h b l σ := by
  obtain ⟨R, P, C, V, T, r1, r2⟩ := h3
  exact ⟨R, P, C, V, ⟨h1, h2, T⟩, r1⟩
def Bdx (h : XH) (b : Nat) : Prop := ∃ l R P C V, Bd h b l R P C V
theorem Brd.x {h : XH} {b : Nat} {l : List Rl} {σ : Sl} (B : Brd h b l σ) : Bdx h b := by
  obtain ⟨R, P, C, V, B, hs⟩ := B
  exact ⟨l, R, P, C, V, B⟩
theorem Bdx.same {h h' : XH} {b : Nat} (B : Bdx h b) {lo hi : Nat} (s : Same h h' lo hi) (hd : b + 14 ≤ lo ∨ hi ≤ b) : Bdx h' b := by
  obtain ⟨l, R, P, C, V, B⟩ := B
  exact ⟨l, R, P, C, V, B.same s hd⟩
def TT (c i : Nat) : Prop := (c + 18 ≤ i ∧ i < c + 32) ∨ (c + 35 ≤ i ∧ i < c + 38)
def TryR (h : XH) (c : Nat) (l : List Rl) (o : Option (Sl × Mvs)) : Prop := match o with
  | some r => Brd h (c + 18) l r.1 ∧ Log h (c + 35) r.2
  | none => Bdx h (c + 18) ∧ ∃ ms, Log h (c + 35) ms
def tryI (o : Option (Sl × Mvs)) : Int32 := match o with
  | none => -3
  | some r => nI r.2.length
theorem try_loop {c : Nat} {l : List Rl} {r : Nat} {q : Rl} (hv : ∀ y ∈ l, vr y) (hr : r < l.length) (hq : rlN l r = q) {d : Nat} {a1 a2 a3 a5 : Value} : ∀ (n p : Nat) (σ : Sl) (ms : Mvs) (h : XH), p + n = rwR q → ms.length ≤ 3 * p → CrO h c → Brd h (c + 18) l σ → Log h (c + 35) ms →
    ∃ h', xe XP (d + 11) 104 (68, [.ref c, a1, a2, a3, .int (nI q.2.2.2.1), a5, .int (nI r), .int (nI (tlN q p)), .int (nI p)], [], h) = some (some (.int (tryI (cmS l r n p σ ms))), h') ∧ TryR h' c l (cmS l r n p σ ms) ∧ Dif h h' (TT c) := by
  have hvq : vr q := by rw [← hq]; exact hv _ (rlN_mem hr)
  have h6 : rwR q ≤ 6 := rwF_le 6 _ _
  have h15 := hvq.2.2.2.1
  intro n
  induction n with
  | zero =>
    intro p σ ms h hp hms O B L
    refine ⟨h, ?_, ⟨B, L⟩, Dif.refl _ _⟩
    have hte := tl_end hvq
    have hp : p = rwR q := by omega
    subst hp
    have htl : tlN q (rwR q) < 100 := by
      have hpos := rwR_pos hvq
      obtain ⟨m, hm⟩ : ∃ m, rwR q = m + 1 := ⟨rwR q - 1, by omega⟩
      rw [hm, tl_succ]
      have := tl_le hvq (p := m) (by omega)
      have := psz_pos (tlN q m) q.2.2.2.1
      omega
    by_cases g6 : 6 ≤ rwR q
    · simp (disch := first | assumption | omega) only [e_X7_tryRule_68, e_X7_tryRule_69, e_X7_tryRule_70, e_X7_tryRule_98, e_X7_tryRule_99, e_X7_tryRule_100, e_X7_tryRule_101, nI_leI, if_t, O.f5, L.f2, Option.bind_some]
      rfl
    · simp (disch := first | assumption | omega) only [e_X7_tryRule_68, e_X7_tryRule_69, e_X7_tryRule_70, e_X7_tryRule_71, e_X7_tryRule_72, e_X7_tryRule_73, e_X7_tryRule_98, e_X7_tryRule_99, e_X7_tryRule_100, e_X7_tryRule_101, nI_leI, nI_ltI, if_t, if_f, O.f5, L.f2, Option.bind_some]
      rfl
  | succ n ih =>
    intro p σ ms h hp hms O B L
    have hpr : p < rwR (rlN l r) := by rw [hq]; omega
    have htl := tl_le hvq (p := p) (by omega)
    have hps := psz_pos (tlN q p) q.2.2.2.1
    obtain ⟨h1, e1, o1, L1, T1, s1⟩ := B.put (d := d + 9) hr hpr
    rw [hq] at e1
    have O1 := O.same s1 (by omega)
    have G1 := L.same s1 (by omega)
    obtain ⟨h2, e2, r2, d2⟩ := q_letComeIn (t := c + 27) (g := c + 35) hv (by omega) (d := d) (by omega) T1 G1
    have d2' : Dif h1 h2 (TT c) := d2.weak (fun i hi => by unfold TG at hi; unfold TT; omega)
    have D2 : Dif h h2 (TT c) := (s1.dif (fun i h1 h2 => by unfold TT; omega)).trans d2'
    have O2 : CrO h2 c := d2.go (P := fun k => CrO k c) (b := c) (e := c + 1) (fun i _ _ => by unfold TG; omega) (fun _ _ _ _ s hd O => CrO.same O s hd) O1
    have o2 : h2[c + 18]? = some (.inl (0, [.ref (c + 19), .ref (c + 27)])) := by rw [d2.2 _ (by unfold TG; omega)]; exact o1
    have L2 : Lst h2 (c + 19) l := d2.go (P := fun k => Lst k (c + 19) l) (b := c + 19) (e := c + 27) (fun i _ _ => by unfold TG; omega) (fun _ _ _ _ s hd O => Lst.same O s hd) L1
    have c1 : xcls h (.ref (c + 18)) = some 0 := by obtain ⟨R, P, C, V, B, hs⟩ := B; exact B.c
    have f1 : xgf h1 (c + 18) 0 1 = some (.ref (c + 27)) := xgf_o o1 1
    unfold cmS
    cases hs : srA l (r, p) σ with
    | none =>
      rw [hs] at e2 r2
      refine ⟨h2, ?_, ⟨(Brd.of o2 L2 r2.1).x, _, r2.2⟩, D2⟩
      simp (disch := first | assumption | omega) only [e_X7_tryRule_68, e_X7_tryRule_69, e_X7_tryRule_70, e_X7_tryRule_71, e_X7_tryRule_72, e_X7_tryRule_73, e_X7_tryRule_74, e_X7_tryRule_75, e_X7_tryRule_76, e_X7_tryRule_77, e_X7_tryRule_78, e_X7_tryRule_79, e_X7_tryRule_80, e_X7_tryRule_81, e_X7_tryRule_82, e_X7_tryRule_83, e_X7_tryRule_84, e_X7_tryRule_85, e_X7_tryRule_86, e_X7_tryRule_87, e_X7_tryRule_88, e_X7_tryRule_89, nI_leI, nI_ltI, if_f, O.f3, O1.f3, O1.f5, f1, Option.bind_some, e1, xbk_v, xbk_i, e2, Option.isSome_none, bI_0, not_true, if_false]
      rfl
    | some x =>
      rw [hs] at e2 r2
      have hx := srA_len hs
      obtain ⟨h3, e3, r3, d3⟩ := ih (p + 1) x.1 (ms ++ x.2) h2 (by omega) (by simp; omega) O2 (Brd.of o2 L2 r2.1) r2.2
      refine ⟨h3, ?_, r3, D2.trans d3⟩
      rw [e_X7_tryRule_68]
      rw [tl_succ] at e3
      simp (disch := first | assumption | omega) only [e_X7_tryRule_69, e_X7_tryRule_70, e_X7_tryRule_71, e_X7_tryRule_72, e_X7_tryRule_73, e_X7_tryRule_74, e_X7_tryRule_75, e_X7_tryRule_76, e_X7_tryRule_77, e_X7_tryRule_78, e_X7_tryRule_79, e_X7_tryRule_80, e_X7_tryRule_81, e_X7_tryRule_82, e_X7_tryRule_83, e_X7_tryRule_84, e_X7_tryRule_85, e_X7_tryRule_86, e_X7_tryRule_87, e_X7_tryRule_88, e_X7_tryRule_89, e_X7_tryRule_90, e_X7_tryRule_91, e_X7_tryRule_92, e_X7_tryRule_93, e_X7_tryRule_94, e_X7_tryRule_95, e_X7_tryRule_96, e_X7_tryRule_97, nI_leI, nI_ltI, if_f, O.f3, O1.f3, O1.f5, f1, Option.bind_some, e1, xbk_v, xbk_i, e2, Option.isSome_some, bI_0, Bool.true_eq_false, not_false_eq_true, if_true, q_pieceSize, nI_add, e3]
