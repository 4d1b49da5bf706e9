/-! MATHS: what every change keeps -/
def Wl (l : List Rl) (σ : Sl) : Prop := Vld l σ ∧ Unq σ ∧ Ord l σ
theorem mtX_comm (l : List Rl) (x y : Nat × Nat) : mtX l x y = mtX l y x := by
  unfold mtX
  refine decide_eq_decide.mpr ?_
  rw [Nat.xor_comm, Nat.and_assoc, Nat.and_comm (rwC (rlN l x.1) x.2), ← Nat.and_assoc]
section KeptR
variable {l : List Rl} {σ : Sl}
theorem mvS_some {f t s : Nat} {x y : Nat × Nat} (hft : f ≠ t) (hx : σ f = some x) : mvS σ f t s = some y ↔ (s = t ∧ y = x) ∨ (s ≠ f ∧ s ≠ t ∧ σ s = some y) := by
  unfold mvS
  by_cases g1 : s = f
  · rw [if_pos g1]
    constructor
    · intro e; cases e
    · intro e
      rcases e with e | e
      · exact absurd (g1.symm.trans e.1) hft
      · exact absurd g1 e.1
  · rw [if_neg g1]
    by_cases g2 : s = t
    · rw [if_pos g2, hx]
      constructor
      · intro e; cases e; exact Or.inl ⟨g2, rfl⟩
      · intro e
        rcases e with e | e
        · rw [e.2]
        · exact absurd g2 e.2.1
    · rw [if_neg g2]
      constructor
      · intro e; exact Or.inr ⟨g1, g2, e⟩
      · intro e
        rcases e with e | e
        · exact absurd e.1 g2
        · exact e.2.2
theorem mv_prs {f t : Nat} {x : Nat × Nat} (hft : f ≠ t) (hf : f < 16) (ht : t < 16) (hx : σ f = some x) (hn : σ t = none) (y : Nat × Nat) : Prs (mvS σ f t) y ↔ Prs σ y := by
  constructor
  · intro ⟨s, s1, s2⟩
    rcases (mvS_some hft hx).mp s2 with e | e
    · exact ⟨f, hf, by rw [e.2]; exact hx⟩
    · exact ⟨s, s1, e.2.2⟩
  · intro ⟨s, s1, s2⟩
    by_cases g : s = f
    · refine ⟨t, ht, (mvS_some hft hx).mpr (Or.inl ⟨rfl, ?_⟩)⟩
      rw [g, hx] at s2
      cases s2
      rfl
    · refine ⟨s, s1, (mvS_some hft hx).mpr (Or.inr ⟨g, fun e => ?_, s2⟩)⟩
      rw [e, hn] at s2
      cases s2
theorem mv_ok {f t : Nat} (W : Wl l σ) (hf : f < 16) (ht : t < 16) (ho : opA l σ f t = true) : Wl l (mvS σ f t) := by
  obtain ⟨V, U, O⟩ := W
  obtain ⟨x, hx, hn, hft⟩ := opA_of ho
  unfold opA at ho
  rw [hx] at ho
  simp only [Bool.and_eq_true, decide_eq_true_eq] at ho
  obtain ⟨-, o1, o2⟩ := ho
  refine ⟨fun s y hs hy => ?_, fun s s' y hs hs' h1 h2 => ?_, fun s s' y y' hs hs' h1 h2 hm hr => ?_⟩
  · rcases (mvS_some hft hx).mp hy with e | e
    · rw [e.2]; exact V f x hf hx
    · exact V s y hs e.2.2
  · rcases (mvS_some hft hx).mp h1 with e | e
    · rcases (mvS_some hft hx).mp h2 with e' | e'
      · rw [e.1, e'.1]
      · rw [e.2] at e'
        exact absurd (U s' f x hs' hf e'.2.2 hx) e'.1
    · rcases (mvS_some hft hx).mp h2 with e' | e'
      · rw [e'.2] at e
        exact absurd (U s f x hs hf e.2.2 hx) e.1
      · exact U s s' y hs hs' e.2.2 e'.2.2
  · rcases (mvS_some hft hx).mp h1 with e | e
    · obtain ⟨e1, e2⟩ := e
      subst e1
      subst e2
      rcases (mvS_some hft hx).mp h2 with e' | e'
      · rw [e'.2] at hr; omega
      · have : ceA l σ y ≤ s' := ceA_leOf hs' (by unfold abA; rw [e'.2.2]; simp only []; rw [decide_eq_true hr, mtX_comm, hm]; rfl)
        omega
    · rcases (mvS_some hft hx).mp h2 with e' | e'
      · obtain ⟨e1, e2⟩ := e'
        subst e1
        subst e2
        have : s + 1 ≤ flA l σ y' := flA_ge hs (by unfold blA; rw [e.2.2]; simp only []; rw [decide_eq_true hr, hm]; rfl)
        omega
      · exact O s s' y y' hs hs' e.2.2 e'.2.2 hm hr
theorem ptS_some {s i : Nat} {w y : Nat × Nat} : ptS σ s w i = some y ↔ (i = s ∧ y = w) ∨ (i ≠ s ∧ σ i = some y) := by
  unfold ptS
  by_cases g : i = s
  · rw [if_pos g]
    constructor
    · intro e; cases e; exact Or.inl ⟨g, rfl⟩
    · intro e
      rcases e with e | e
      · rw [e.2]
      · exact absurd g e.1
  · rw [if_neg g]
    constructor
    · intro e; exact Or.inr ⟨g, e⟩
    · intro e
      rcases e with e | e
      · exact absurd e.1 g
      · exact e.2
theorem pt_ok {s : Nat} {w : Nat × Nat} (W : Wl l σ) (hl : loA l σ w = some s) (w1 : w.1 < l.length) (w2 : w.2 < rwR (rlN l w.1)) (hp : ¬ Prs σ w) : Wl l (ptS σ s w) ∧ ∀ x, Prs (ptS σ s w) x ↔ (Prs σ x ∨ x = w) := by
  obtain ⟨V, U, O⟩ := W
  unfold loA at hl
  obtain ⟨a1, a2, a3, -⟩ := fup_some.mp hl
  have hc := ceA_le l σ w
  have s16 : s < 16 := by omega
  have hem : σ s = none := by unfold emA at a3; cases h : σ s with | none => rfl | some z => rw [h] at a3; cases a3
  refine ⟨⟨fun i y hi hy => ?_, fun i i' y hi hi' h1 h2 => ?_, fun i i' y y' hi hi' h1 h2 hm hr => ?_⟩, fun x => ⟨fun ⟨i, i1, i2⟩ => ?_, fun h => ?_⟩⟩
  · rcases ptS_some.mp hy with e | e
    · rw [e.2]; exact ⟨w1, w2⟩
    · exact V i y hi e.2
  · rcases ptS_some.mp h1 with e | e
    · rcases ptS_some.mp h2 with e' | e'
      · rw [e.1, e'.1]
      · exact absurd ⟨i', hi', by rw [← e.2]; exact e'.2⟩ hp
    · rcases ptS_some.mp h2 with e' | e'
      · exact absurd ⟨i, hi, by rw [← e'.2]; exact e.2⟩ hp
      · exact U i i' y hi hi' e.2 e'.2
  · rcases ptS_some.mp h1 with e | e
    · obtain ⟨e1, e2⟩ := e
      subst e1
      subst e2
      rcases ptS_some.mp h2 with e' | e'
      · rw [e'.2] at hr; omega
      · have : ceA l σ y ≤ i' := ceA_leOf hi' (by unfold abA; rw [e'.2]; simp only []; rw [decide_eq_true hr, mtX_comm, hm]; rfl)
        omega
    · rcases ptS_some.mp h2 with e' | e'
      · obtain ⟨e1, e2⟩ := e'
        subst e1
        subst e2
        have : i + 1 ≤ flA l σ y' := flA_ge hi (by unfold blA; rw [e.2]; simp only []; rw [decide_eq_true hr, hm]; rfl)
        omega
      · exact O i i' y y' hi hi' e.2 e'.2 hm hr
  · rcases ptS_some.mp i2 with e | e
    · exact Or.inr e.2
    · exact Or.inl ⟨i, i1, e.2⟩
  · rcases h with ⟨i, i1, i2⟩ | h
    · refine ⟨i, i1, ptS_some.mpr (Or.inr ⟨fun e => ?_, i2⟩)⟩
      rw [e, hem] at i2
      cases i2
    · exact ⟨s, s16, ptS_some.mpr (Or.inl ⟨rfl, h⟩)⟩
theorem srch_ok {w : Nat × Nat} (w1 : w.1 < l.length) (w2 : w.2 < rwR (rlN l w.1)) : ∀ (k : Nat) (σ : Sl) (r : Sl × Mvs), srch l w k σ = some r → Wl l σ → ¬ Prs σ w → Wl l r.1 ∧ ∀ x, Prs r.1 x ↔ (Prs σ x ∨ x = w) := by
  intro k
  induction k with
  | zero =>
    intro σ r h W hp
    unfold srch at h
    cases hq : loA l σ w with
    | none => rw [hq] at h; cases h
    | some s =>
      rw [hq] at h
      cases h
      exact pt_ok W hq w1 w2 hp
  | succ k ih =>
    intro σ r h W hp
    unfold srch at h
    obtain ⟨f, -, f2, hf⟩ := fso_some h
    have f16 : f < 16 := by omega
    unfold srF at hf
    cases hx : σ f with
    | none => rw [hx] at hf; cases hf
    | some x =>
      rw [hx] at hf
      simp only [] at hf
      obtain ⟨t, t1, t2, ht⟩ := fso_some hf
      have hc := ceA_le l σ x
      have t16 : t < 16 := by omega
      unfold srM at ht
      cases hy : σ t with
      | some y => rw [hy] at ht; cases ht
      | none =>
        rw [hy] at ht
        simp only [Option.isSome_none, Bool.false_eq_true, if_false] at ht
        cases hr : srch l w k (mvS σ f t) with
        | none => rw [hr] at ht; cases ht
        | some r' =>
          rw [hr] at ht
          cases ht
          have hft : f ≠ t := fun e => by rw [e, hy] at hx; cases hx
          have ho : opA l σ f t = true := by
            unfold opA emA
            rw [hx, hy]
            simp only []
            rw [decide_eq_true t1, decide_eq_true (show t < ceA l σ x by omega)]
            rfl
          have mp := mv_prs hft f16 t16 hx hy
          obtain ⟨a1, a2⟩ := ih (mvS σ f t) r' hr (mv_ok W f16 t16 ho) (fun q => hp ((mp w).mp q))
          exact ⟨a1, fun z => by rw [a2 z, mp z]⟩
theorem srA_ok {w : Nat × Nat} (w1 : w.1 < l.length) (w2 : w.2 < rwR (rlN l w.1)) {r : Sl × Mvs} (h : srA l w σ = some r) (W : Wl l σ) (hp : ¬ Prs σ w) : Wl l r.1 ∧ ∀ x, Prs r.1 x ↔ (Prs σ x ∨ x = w) := by
  unfold srA at h
  obtain ⟨k, -, -, hk⟩ := fso_some h
  exact srch_ok w1 w2 k σ r hk W hp
theorem cmS_ok {r0 : Nat} (hr : r0 < l.length) : ∀ (n p : Nat) (σ : Sl) (ms : Mvs) (r : Sl × Mvs), cmS l r0 n p σ ms = some r → p + n = rwR (rlN l r0) → Wl l σ → (∀ p', p ≤ p' → ¬ Prs σ (r0, p')) → Wl l r.1 ∧ ∀ x, Prs r.1 x ↔ (Prs σ x ∨ (x.1 = r0 ∧ p ≤ x.2 ∧ x.2 < p + n)) := by
  intro n
  induction n with
  | zero =>
    intro p σ ms r h hp W hn
    cases h
    exact ⟨W, fun x => ⟨fun q => Or.inl q, fun q => q.elim id (fun q => by omega)⟩⟩
  | succ n ih =>
    intro p σ ms r h hp W hn
    unfold cmS at h
    cases hs : srA l (r0, p) σ with
    | none => rw [hs] at h; cases h
    | some x =>
      rw [hs] at h
      simp only [] at h
      obtain ⟨a1, a2⟩ := srA_ok (w := (r0, p)) hr (show p < rwR (rlN l r0) by omega) hs W (hn p (Nat.le_refl _))
      obtain ⟨b1, b2⟩ := ih (p + 1) x.1 (ms ++ x.2) r h (by omega) a1 (fun p' hp' q => by
        rcases (a2 (r0, p')).mp q with q | q
        · exact hn p' (by omega) q
        · have := congrArg Prod.snd q
          simp only [] at this
          omega)
      refine ⟨b1, fun z => ?_⟩
      rw [b2 z, a2 z]
      constructor
      · intro q
        rcases q with (q | q) | q
        · exact Or.inl q
        · rw [q]; exact Or.inr ⟨rfl, Nat.le_refl _, by show p < _; omega⟩
        · exact Or.inr ⟨q.1, by omega, by omega⟩
      · intro q
        rcases q with q | q
        · exact Or.inl (Or.inl q)
        · by_cases g : z.2 = p
          · exact Or.inl (Or.inr (Prod.ext q.1 g))
          · exact Or.inr ⟨q.1, by omega, by omega⟩
theorem mtX_app {q : Rl} {x y : Nat × Nat} (hx : x.1 < l.length) (hy : y.1 < l.length) : mtX (l ++ [q]) x y = mtX l x y := by
  unfold mtX
  rw [rlN_app hx, rlN_app hy]
theorem rkX_app {q : Rl} {x : Nat × Nat} (hx : x.1 < l.length) : rkX (l ++ [q]) x = rkX l x := by
  unfold rkX
  rw [rlN_app hx]
theorem trS_ok {q : Rl} {r : Sl × Mvs} (I : Inv l σ) (v : vr q) (hn : nofR l q.1 = none) (h : trS l σ q = some r) : Inv (l ++ [q]) r.1 := by
  have hlen0 := I.len
  have hpos := rwR_pos v
  obtain ⟨⟨h16, hv, hd⟩, V, U, O, P⟩ := I
  unfold trS at h
  split at h
  · next g =>
    have hlen : (l ++ [q]).length = l.length + 1 := by simp
    have W : Wl (l ++ [q]) σ := ⟨fun s x hs hx => by
        obtain ⟨a, b⟩ := V s x hs hx
        exact ⟨by omega, by rw [rlN_app a]; exact b⟩, U, fun s t x y hs ht hx hy hm hr => by
        have a := (V s x hs hx).1
        have b := (V t y ht hy).1
        rw [mtX_app a b] at hm
        rw [rkX_app a, rkX_app b] at hr
        exact O s t x y hs ht hx hy hm hr⟩
    have hnew : ∀ p', 0 ≤ p' → ¬ Prs σ (l.length, p') := fun p' _ ⟨s, s1, s2⟩ => by
      have := (V s _ s1 s2).1
      simp only [] at this
      omega
    obtain ⟨⟨V', U', O'⟩, hp⟩ := cmS_ok (l := l ++ [q]) (r0 := l.length) (by omega) (rwR q) 0 σ [] r h (by rw [rlN_last]; omega) W hnew
    refine ⟨⟨by omega, fun x hx => ?_, dst_app hd hn⟩, V', U', O', fun r0 p h1 h2 => (hp (r0, p)).mpr ?_⟩
    · rw [List.mem_append] at hx
      rcases hx with hx | hx
      · exact hv x hx
      · rw [List.mem_singleton] at hx; rw [hx]; exact v
    · by_cases g2 : r0 < l.length
      · rw [rlN_app g2] at h2
        exact Or.inl (P r0 p g2 h2)
      · have e : r0 = l.length := by omega
        subst e
        rw [rlN_last] at h2
        exact Or.inr ⟨rfl, Nat.zero_le _, by simp only []; omega⟩
  · cases h
theorem slDel_some {r s : Nat} {y : Nat × Nat} : slDel σ r s = some y ↔ ∃ x, σ s = some x ∧ x.1 ≠ r ∧ y = (if r < x.1 then x.1 - 1 else x.1, x.2) := by
  unfold slDel
  cases hx : σ s with
  | none =>
    constructor
    · intro e; cases e
    · rintro ⟨x, e, -⟩; cases e
  | some x =>
    simp only []
    by_cases g : x.1 = r
    · rw [if_pos g]
      constructor
      · intro e; cases e
      · rintro ⟨z, e, e2, -⟩
        cases e
        exact absurd g e2
    · rw [if_neg g]
      constructor
      · intro e; cases e; exact ⟨x, rfl, g, rfl⟩
      · intro ⟨z, e, e2, e3⟩
        cases e
        rw [e3]
theorem rlN_sh {r i : Nat} (hi : i ≠ r) : rlN (l.eraseIdx r) (if r < i then i - 1 else i) = rlN l i := by
  rw [rlN_del]
  by_cases g3 : r < i
  · rw [if_pos g3, if_neg (by omega), show i - 1 + 1 = i by omega]
  · rw [if_neg g3, if_pos (by omega)]
theorem del_ok {r : Nat} (hr : r < l.length) (I : Inv l σ) : Inv (l.eraseIdx r) (slDel σ r) := by
  obtain ⟨⟨h16, hv, hd⟩, V, U, O, P⟩ := I
  have hlen : (l.eraseIdx r).length = l.length - 1 := by rw [List.length_eraseIdx]; simp [hr]
  refine ⟨⟨by omega, fun q hq => hv q (List.mem_of_mem_eraseIdx hq), dst_del hd r⟩, fun s y hs hy => ?_, fun s t y hs ht h1 h2 => ?_, fun s t y z hs ht h1 h2 hm hrk => ?_, fun r0 p h1 h2 => ?_⟩
  · obtain ⟨x, x1, x2, rfl⟩ := slDel_some.mp hy
    obtain ⟨a, b⟩ := V s x hs x1
    refine ⟨?_, ?_⟩
    · show (if r < x.1 then x.1 - 1 else x.1) < _
      split <;> omega
    · show x.2 < rwR (rlN _ (if r < x.1 then x.1 - 1 else x.1))
      rw [rlN_sh x2]
      exact b
  · obtain ⟨x, x1, x2, e1⟩ := slDel_some.mp h1
    obtain ⟨z, z1, z2, e2⟩ := slDel_some.mp h2
    rw [e1] at e2
    have q1 := congrArg Prod.fst e2
    have q2 := congrArg Prod.snd e2
    simp only [] at q1 q2
    have : x.1 = z.1 := by
      by_cases a : r < x.1 <;> by_cases b : r < z.1 <;> simp only [a, b, if_true, if_false] at q1 <;> omega
    rw [← Prod.ext this q2] at z1
    exact U s t x hs ht x1 z1
  · obtain ⟨x, x1, x2, rfl⟩ := slDel_some.mp h1
    obtain ⟨w, w1, w2, rfl⟩ := slDel_some.mp h2
    unfold mtX at hm
    unfold rkX at hrk
    simp only [rlN_sh x2, rlN_sh w2] at hm hrk
    exact O s t x w hs ht x1 w1 hm hrk
  · rw [rlN_del] at h2
    by_cases g : r0 < r
    · rw [if_pos g] at h2
      obtain ⟨s, s1, s2⟩ := P r0 p (by omega) h2
      exact ⟨s, s1, slDel_some.mpr ⟨_, s2, by simp only []; omega, by simp only []; rw [if_neg (by omega)]⟩⟩
    · rw [if_neg g] at h2
      obtain ⟨s, s1, s2⟩ := P (r0 + 1) p (by omega) h2
      exact ⟨s, s1, slDel_some.mpr ⟨_, s2, by simp only []; omega, by simp only []; rw [if_pos (by omega), Nat.add_sub_cancel]⟩⟩
theorem prg_ok : ∀ (n : Nat) (l : List Rl) (σ : Sl), n ≤ l.length → Inv l σ → Inv (prgS n l σ).1 (prgS n l σ).2 := by
  intro n
  induction n with
  | zero => intro l σ _ I; exact I
  | succ n ih =>
    intro l σ hn I
    unfold prgS
    split
    · exact ih _ _ (by rw [List.length_eraseIdx]; simp [show n < l.length by omega]; omega) (del_ok (by omega) I)
    · exact ih _ _ (by omega) I
theorem mv_inv {f t : Nat} (hf : f < 16) (ht : t < 16) (ho : opA l σ f t = true) (I : Inv l σ) : Inv l (mvS σ f t) := by
  obtain ⟨h0, V, U, O, P⟩ := I
  obtain ⟨x, hx, hn, hft⟩ := opA_of ho
  obtain ⟨V', U', O'⟩ := mv_ok ⟨V, U, O⟩ hf ht ho
  exact ⟨h0, V', U', O', fun r p h1 h2 => (mv_prs hft hf ht hx hn (r, p)).mpr (P r p h1 h2)⟩
end KeptR
