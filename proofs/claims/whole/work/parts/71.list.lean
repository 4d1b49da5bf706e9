/-! MATHS: the list's answer, by its ranks -/
/-- the lowest of those that have the key -/
def isLs (l : List Rl) (k n j : Nat) : Prop := j < n ∧ hasR (rlN l j) k = true ∧ ∀ i, i < n → hasR (rlN l i) k = true → (rlN l j).1 ≤ (rlN l i).1
theorem lsB_itr {l : List Rl} {k : Nat} : ∀ n, match itr (lsF l none k) none n with | none => ∀ i, i < n → hasR (rlN l i) k = false | some j => isLs l k n j := by
  intro n
  induction n with
  | zero => intro i hi; omega
  | succ n ih =>
    show match lsF l none k n (itr (lsF l none k) none n) with | none => _ | some j => _
    generalize itr (lsF l none k) none n = b at ih
    unfold lsF
    cases hh : hasR (rlN l n) k with
    | false =>
      simp only [Bool.and_false, Bool.false_eq_true, if_false]
      cases b with
      | none =>
        intro i hi
        by_cases q : i = n
        · rw [q]; exact hh
        · exact ih i (by omega)
      | some j =>
        obtain ⟨a1, a2, a3⟩ := ih
        refine ⟨by omega, a2, fun i hi hk => ?_⟩
        by_cases q : i = n
        · rw [q, hh] at hk; cases hk
        · exact a3 i (by omega) hk
    | true =>
      cases b with
      | none =>
        simp only [btr, Bool.and_true, decide_true, reduceCtorEq, not_false_eq_true, if_true]
        refine ⟨by omega, hh, fun i hi hk => ?_⟩
        by_cases q : i = n
        · rw [q]; exact Nat.le_refl _
        · have := ih i (by omega); rw [this] at hk; cases hk
      | some j =>
        obtain ⟨a1, a2, a3⟩ := ih
        by_cases g : (rlN l n).1 < (rlN l j).1
        · simp only [btr, g, Bool.and_true, decide_true, reduceCtorEq, not_false_eq_true, if_true]
          refine ⟨by omega, hh, fun i hi hk => ?_⟩
          by_cases q : i = n
          · rw [q]; exact Nat.le_refl _
          · have := a3 i (by omega) hk; omega
        · simp only [btr, g, decide_false, Bool.and_true, Bool.and_false, Bool.false_eq_true, if_false]
          refine ⟨by omega, a2, fun i hi hk => ?_⟩
          by_cases q : i = n
          · rw [q]; omega
          · exact a3 i (by omega) hk
theorem lsB_some {l : List Rl} (hd : dst l) {k j : Nat} : lsB l none k = some j ↔ isLs l k l.length j := by
  have q := lsB_itr (l := l) (k := k) l.length
  unfold lsB
  cases hb : itr (lsF l none k) none l.length with
  | none =>
    rw [hb] at q
    constructor
    · intro e; cases e
    · intro ⟨a1, a2, a3⟩
      have := q j a1
      rw [this] at a2
      cases a2
  | some i =>
    rw [hb] at q
    obtain ⟨b1, b2, b3⟩ := q
    constructor
    · intro e; cases e; exact ⟨b1, b2, b3⟩
    · intro ⟨a1, a2, a3⟩
      have h1 := a3 i b1 b2
      have h2 := b3 j a1 a2
      rw [hd i j b1 a1 (by omega)]
theorem lsB_none {l : List Rl} {k : Nat} : lsB l none k = none ↔ ∀ i, i < l.length → hasR (rlN l i) k = false := by
  have q := lsB_itr (l := l) (k := k) l.length
  unfold lsB
  cases hb : itr (lsF l none k) none l.length with
  | none => rw [hb] at q; exact ⟨fun _ => q, fun _ => rfl⟩
  | some i =>
    rw [hb] at q
    obtain ⟨b1, b2, b3⟩ := q
    constructor
    · intro e; cases e
    · intro h
      have := h i b1
      rw [this] at b2
      cases b2
theorem covB_t {l : List Rl} (hd : dst l) {j : Nat} : covB l j = true ↔ ∀ k, k < 128 → ¬ isLs l k l.length j := by
  unfold covB
  rw [Option.isNone_iff_eq_none, fup_none]
  constructor
  · intro h k hk hi
    have := h k (by omega) (by omega)
    unfold kyB at this
    rw [(lsB_some hd).mpr hi, hi.2.1] at this
    simp at this
  · intro h k _ hk
    unfold kyB
    by_cases q : lsB l none k = some j
    · exact absurd ((lsB_some hd).mp q) (h k (by omega))
    · simp [q]
/-- a covered rule goes: the lower numbers are covered as before -/
theorem cov_del {l : List Rl} (hd : dst l) {n : Nat} (hn : n < l.length) (hc : covB l n = true) {j : Nat} (hj : j < n) : covB (l.eraseIdx n) j = covB l j := by
  have hlen : (l.eraseIdx n).length = l.length - 1 := by rw [List.length_eraseIdx]; simp [hn]
  have hc := (covB_t hd).mp hc
  have key : ∀ k, k < 128 → (isLs (l.eraseIdx n) k (l.eraseIdx n).length j ↔ isLs l k l.length j) := by
    intro k hk
    have ej : rlN (l.eraseIdx n) j = rlN l j := by rw [rlN_del, if_pos hj]
    constructor
    · intro ⟨a1, a2, a3⟩
      rw [ej] at a2
      refine ⟨by omega, a2, fun i hi hh => ?_⟩
      have low : ∀ i, i < l.length → i ≠ n → hasR (rlN l i) k = true → (rlN l j).1 ≤ (rlN l i).1 := by
        intro i hi hin hh
        by_cases q : i < n
        · have := a3 i (by omega)
          rw [ej, rlN_del, if_pos q] at this
          exact this hh
        · have := a3 (i - 1) (by omega)
          rw [ej, rlN_del, if_neg (by omega), show i - 1 + 1 = i by omega] at this
          exact this hh
      by_cases q : i = n
      · subst q
        have hne : lsB l none k ≠ none := fun e => by
          have := lsB_none.mp e i hi
          rw [this] at hh
          cases hh
        cases hq : lsB l none k with
        | none => exact absurd hq hne
        | some i0 =>
          have hi0 := (lsB_some hd).mp hq
          have : i0 ≠ i := fun e => by subst e; exact hc k hk hi0
          have h1 := low i0 hi0.1 this hi0.2.1
          have h2 := hi0.2.2 i hi hh
          omega
      · exact low i hi q hh
    · intro ⟨a1, a2, a3⟩
      refine ⟨by omega, by rw [ej]; exact a2, fun i hi hh => ?_⟩
      rw [ej, rlN_del]
      rw [rlN_del] at hh
      by_cases q : i < n
      · rw [if_pos q] at hh ⊢
        exact a3 i (by omega) hh
      · rw [if_neg q] at hh ⊢
        exact a3 (i + 1) (by omega) hh
  have e1 := covB_t (dst_del hd n) (j := j)
  have e2 := covB_t hd (j := j)
  cases g1 : covB l j with
  | true =>
    have := e2.mp g1
    exact e1.mpr (fun k hk hi => this k hk ((key k hk).mp hi))
  | false =>
    refine Bool.eq_false_iff.mpr (fun g2 => ?_)
    have := e1.mp g2
    have := e2.mpr (fun k hk hi => this k hk ((key k hk).mpr hi))
    rw [g1] at this
    cases this
def prgC (c : Nat → Bool) : Nat → List Rl → Sl → List Rl × Sl
  | 0, l, s => (l, s)
  | n + 1, l, s => if c n = true then prgC c n (l.eraseIdx n) (slDel s n) else prgC c n l s
theorem prg_eq {c : Nat → Bool} : ∀ (n : Nat) (l : List Rl) (s : Sl), dst l → n ≤ l.length → (∀ j, j < n → c j = covB l j) → prgC c n l s = prgS n l s := by
  intro n
  induction n with
  | zero => intro l s _ _ _; rfl
  | succ n ih =>
    intro l s hd hn hc
    show (if c n = true then prgC c n (l.eraseIdx n) (slDel s n) else prgC c n l s) = (if covB l n = true then prgS n (l.eraseIdx n) (slDel s n) else prgS n l s)
    rw [hc n (by omega)]
    cases g : covB l n with
    | false =>
      simp only [Bool.false_eq_true, if_false]
      exact ih l s hd (by omega) (fun j hj => hc j (by omega))
    | true =>
      simp only [if_true]
      have hlen : (l.eraseIdx n).length = l.length - 1 := by rw [List.length_eraseIdx]; simp [show n < l.length by omega]
      exact ih _ _ (dst_del hd n) (by omega) (fun j hj => by rw [hc j (by omega), cov_del hd (by omega) g hj])
theorem prgC_cut {c : Nat → Bool} {a : Nat} {l : List Rl} {s : Sl} : ∀ n, a ≤ n → (∀ j, a ≤ j → j < n → c j = false) → prgC c n l s = prgC c a l s := by
  intro n
  induction n with
  | zero => intro h _; rw [show a = 0 by omega]
  | succ n ih =>
    intro h hc
    by_cases g : a = n + 1
    · rw [g]
    · show (if c n = true then prgC c n (l.eraseIdx n) (slDel s n) else prgC c n l s) = _
      rw [hc n (by omega) (by omega)]
      simp only [Bool.false_eq_true, if_false]
      exact ih (by omega) (fun j h1 h2 => hc j h1 (by omega))
/-- a set of numbers -/
def stN (c : Nat → Bool) (n : Nat) : Nat := itr (fun r a => a ||| (if c r = true then 2 ^ r else 0)) 0 n
theorem stN_bit {c : Nat → Bool} (j : Nat) : ∀ n, (stN c n).testBit j = (decide (j < n) && c j) := by
  intro n
  induction n with
  | zero => simp [stN, itr]
  | succ n ih =>
    show (stN c n ||| (if c n = true then 2 ^ n else 0)).testBit j = _
    rw [Nat.testBit_or, ih]
    by_cases q : j = n
    · subst q
      cases g : c j <;> simp
    · have : decide (j < n + 1) = decide (j < n) := decide_eq_decide.mpr (by omega)
      rw [this]
      by_cases g : c n = true
      · simp only [g, if_true, Nat.testBit_two_pow, decide_eq_false (show ¬ n = j by omega), Bool.or_false]
      · simp only [g, if_false, Nat.zero_testBit, Bool.or_false, Bool.false_eq_true]
theorem stN_lt {c : Nat → Bool} {e : Nat} : ∀ n, n ≤ e → stN c n < 2 ^ e := by
  intro n
  induction n with
  | zero => intro _; exact Nat.pow_pos (by decide)
  | succ n ih =>
    intro h
    show stN c n ||| (if c n = true then 2 ^ n else 0) < 2 ^ e
    refine or_lt (ih (by omega)) ?_
    split
    · exact Nat.pow_lt_pow_right (by decide) (by omega)
    · exact Nat.pow_pos (by decide)
theorem stN_0 {c : Nat → Bool} : ∀ n, (stN c n = 0 ↔ ct c n = 0) := by
  intro n
  constructor
  · intro e
    rw [fup_ct]
    refine fup_none.mpr (fun j _ hj => ?_)
    have := stN_bit (c := c) j n
    rw [e, Nat.zero_testBit, decide_eq_true (show j < n by omega)] at this
    simpa using this.symm
  · intro e
    have := fup_none.mp (fup_ct n |>.mp e)
    refine Nat.eq_of_testBit_eq (fun j => ?_)
    rw [stN_bit, Nat.zero_testBit]
    by_cases q : j < n
    · rw [this j (by omega) (by omega)]; simp
    · rw [decide_eq_false q]; rfl
