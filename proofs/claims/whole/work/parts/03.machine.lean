/-! A SMALL MACHINE over the cells that the law's run can reach, by their numbers. A cell: an object (class number, fields), an array of numbers (kind, length, contents), an array of references. Kinds of arrays: 0 int, 1 boolean, 3 the script, 4 the bytes of the one text. Class 9: the one text. -/
abbrev XC : Type := (Nat × List Value) ⊕ ((Nat × Nat × (Nat → Int32)) ⊕ List Value)
abbrev XH : Type := List XC
abbrev XR : Type := Option Value × XH
abbrev XS : Type := Nat × List Value × List Value × XH
abbrev XF : Type := List Value → List Value → XH → Option (XS ⊕ XR)
/-- a step; or a call: the receiver's class if it is looked at, how many values it takes, which method, where it goes on -/
abbrev XO : Type := XF ⊕ (Option Nat × Nat × Nat × Nat)
abbrev XPr : Type := Nat → Nat × List XO
def xcls (h : XH) (v : Value) : Option Nat := match v with
  | .ref t => (match h[t]? with
    | some (.inl (c, _)) => some c
    | _ => none)
  | _ => none
/-- a call's values: may it be made -/
def xcok (rc : Option Nat) (k : Nat) (st : List Value) (h : XH) : Bool :=
  decide (k ≤ st.length) && decide ((st.drop k).length ≤ 8) && (match rc with
    | none => true
    | some c => decide (((st.take k).reverse.head?.bind (xcls h)) = some c))
def xent (P : XPr) (m : Nat) (as : List Value) (h : XH) : XS := (0, as ++ List.replicate ((P m).1 - as.length) .null, [], h)
def xrun (P : XPr) : Nat → Nat → Nat → XS → Option XR
  | 0, _, _, _ => none
  | n + 1, d, m, (i, ls, st, h) =>
    match (P m).2[i]? with
    | none => none
    | some (.inl f) => (match f ls st h with
      | none => none
      | some (.inl s) => xrun P n d m s
      | some (.inr r) => some r)
    | some (.inr (rc, k, mj, nx)) => (match d with
      | 0 => none
      | d' + 1 => if xcok rc k st h = true then (match xrun P n d' mj (xent P mj (st.take k).reverse h) with
          | none => none
          | some (v, h') => xrun P n (d' + 1) m (nx, ls, v.toList ++ st.drop k, h'))
        else none)
theorem xrun_mono (P : XPr) : ∀ (n d m : Nat) (s : XS) (r : XR), xrun P n d m s = some r → xrun P (n + 1) d m s = some r := by
  intro n
  induction n with
  | zero => intro d m s r h; simp [xrun] at h
  | succ n ih =>
    intro d m s r h
    obtain ⟨i, ls, st, hp⟩ := s
    rw [xrun] at h ⊢
    cases ho : (P m).2[i]? with
    | none => rw [ho] at h; simp at h
    | some o =>
      rw [ho] at h
      cases o with
      | inl f =>
        dsimp only at h ⊢
        cases hf : f ls st hp with
        | none => rw [hf] at h; simp at h
        | some x =>
          rw [hf] at h
          cases x with
          | inl s => exact ih d m s r h
          | inr r' => exact h
      | inr c =>
        obtain ⟨rc, k, mj, nx⟩ := c
        dsimp only at h ⊢
        cases d with
        | zero => simp at h
        | succ d' =>
          dsimp only at h ⊢
          by_cases hc : xcok rc k st hp = true
          · rw [if_pos hc] at h ⊢
            cases hr : xrun P n d' mj (xent P mj (st.take k).reverse hp) with
            | none => rw [hr] at h; simp at h
            | some y =>
              rw [hr] at h
              rw [ih _ _ _ _ hr]
              obtain ⟨v, h'⟩ := y
              exact ih _ _ _ _ h
          · rw [if_neg hc] at h; simp at h
theorem xrun_le (P : XPr) {n n' d m : Nat} {s : XS} {r : XR} (hn : n ≤ n') (h : xrun P n d m s = some r) : xrun P n' d m s = some r := by
  induction hn with
  | refl => exact h
  | step _ ih => exact xrun_mono P _ d m s r ih
/-- what the machine comes to, if it comes to anything -/
noncomputable def xe (P : XPr) (d m : Nat) (s : XS) : Option XR := @dite (Option XR) (∃ n r, xrun P n d m s = some r) (Classical.propDecidable _) (fun h => some (Classical.choose (Classical.choose_spec h))) (fun _ => none)
theorem xe_some {P : XPr} {n d m : Nat} {s : XS} {r : XR} (h : xrun P n d m s = some r) : xe P d m s = some r := by
  have hx : ∃ n r, xrun P n d m s = some r := ⟨n, r, h⟩
  have h1 := Classical.choose_spec (Classical.choose_spec hx)
  unfold xe
  rw [dif_pos hx]
  have a1 := xrun_le P (Nat.le_max_left n (Classical.choose hx)) h
  have a2 := xrun_le P (Nat.le_max_right n (Classical.choose hx)) h1
  rw [a1] at a2
  exact a2.symm
theorem xe_run {P : XPr} {d m : Nat} {s : XS} {r : XR} (h : xe P d m s = some r) : ∃ n, xrun P n d m s = some r := by
  unfold xe at h
  by_cases hx : ∃ n r, xrun P n d m s = some r
  · rw [dif_pos hx] at h
    have h1 := Classical.choose_spec (Classical.choose_spec hx)
    rw [Option.some.inj h] at h1
    exact ⟨_, h1⟩
  · rw [dif_neg hx] at h
    cases h
theorem xe_none {P : XPr} {d m : Nat} {s : XS} (h : ∀ n, xrun P n d m s = none) : xe P d m s = none := by
  cases hx : xe P d m s with
  | none => rfl
  | some r =>
    obtain ⟨n, hn⟩ := xe_run hx
    rw [h n] at hn
    cases hn
theorem xe_same {P : XPr} {d m d' m' : Nat} {s s' : XS} (h : ∀ n, xrun P (n + 1) d m s = xrun P n d' m' s') : xe P d m s = xe P d' m' s' := by
  cases hx : xe P d' m' s' with
  | some r =>
    obtain ⟨n, hn⟩ := xe_run hx
    exact xe_some ((h n).trans hn)
  | none =>
    apply xe_none
    intro n
    cases hr : xrun P n d m s with
    | none => rfl
    | some r =>
      have h1 := xrun_mono P n d m s r hr
      rw [h n] at h1
      rw [xe_some h1] at hx
      cases hx
/-- a step that goes on -/
theorem xe_go {P : XPr} {d m i nl : Nat} {ops : List XO} {ls st : List Value} {h : XH} {f : XF} {s' : XS} (hp : P m = (nl, ops)) (ho : ops[i]? = some (.inl f)) (hf : f ls st h = some (.inl s')) : xe P d m (i, ls, st, h) = xe P d m s' :=
  xe_same (fun n => by rw [xrun, hp]; simp only [ho, hf])
/-- a step that ends -/
theorem xe_end {P : XPr} {d m i nl : Nat} {ops : List XO} {ls st : List Value} {h : XH} {f : XF} {r : XR} (hp : P m = (nl, ops)) (ho : ops[i]? = some (.inl f)) (hf : f ls st h = some (.inr r)) : xe P d m (i, ls, st, h) = some r :=
  xe_some (n := 1) (by rw [xrun, hp]; simp only [ho, hf])
theorem xe_stuck {P : XPr} {d m i nl : Nat} {ops : List XO} {ls st : List Value} {h : XH} {f : XF} (hp : P m = (nl, ops)) (ho : ops[i]? = some (.inl f)) (hf : f ls st h = none) : xe P d m (i, ls, st, h) = none :=
  xe_none (fun n => by
    cases n with
    | zero => rfl
    | succ n => rw [xrun, hp]; simp only [ho, hf])
/-- a method, called -/
noncomputable def xc (P : XPr) (d m : Nat) (as : List Value) (h : XH) : Option XR := xe P d m (xent P m as h)
/-- what a call gives back, and the rest of the stack -/
noncomputable def xbk (P : XPr) (d m nx : Nat) (ls st : List Value) (r : Option XR) : Option XR := r.bind fun y => xe P d m (nx, ls, y.1.toList ++ st, y.2)
theorem xbk_some (P : XPr) (d m nx : Nat) (ls st : List Value) (v : Option Value) (h : XH) : xbk P d m nx ls st (some (v, h)) = xe P d m (nx, ls, v.toList ++ st, h) := rfl
theorem xe_call {P : XPr} {d m i nl k mj nx : Nat} {rc : Option Nat} {ops : List XO} {ls st : List Value} {h : XH} (hp : P m = (nl, ops)) (ho : ops[i]? = some (.inr (rc, k, mj, nx))) (hc : xcok rc k st h = true) :
    xe P (d + 1) m (i, ls, st, h) = xbk P (d + 1) m nx ls (st.drop k) (xc P d mj (st.take k).reverse h) := by
  cases hx : xc P d mj (st.take k).reverse h with
  | none =>
    refine xe_none (fun n => ?_)
    cases n with
    | zero => rfl
    | succ n =>
      rw [xrun, hp]
      simp only [ho, if_pos hc]
      cases hr : xrun P n d mj (xent P mj (st.take k).reverse h) with
      | none => rfl
      | some y =>
        have h1 := xe_some hr
        unfold xc at hx
        rw [h1] at hx
        cases hx
  | some y =>
    obtain ⟨v, h'⟩ := y
    obtain ⟨n1, hn1⟩ := xe_run hx
    rw [xbk_some]
    cases hy : xe P (d + 1) m (nx, ls, v.toList ++ st.drop k, h') with
    | some r =>
      obtain ⟨n2, hn2⟩ := xe_run hy
      refine xe_some (n := max n1 n2 + 1) ?_
      rw [xrun, hp]
      simp only [ho, if_pos hc]
      rw [xrun_le P (Nat.le_max_left n1 n2) hn1]
      exact xrun_le P (Nat.le_max_right n1 n2) hn2
    | none =>
      refine xe_none (fun n => ?_)
      cases hr : xrun P n (d + 1) m (i, ls, st, h) with
      | none => rfl
      | some r =>
        have h1 := xrun_le P (Nat.le_max_right n1 n) hr
        have h2 := xrun_mono P _ _ _ _ _ h1
        rw [xrun, hp] at h2
        simp only [ho, if_pos hc] at h2
        rw [xrun_le P (Nat.le_max_left n1 n) hn1] at h2
        have h3 := xe_some h2
        rw [h3] at hy
        cases hy
