/-! THE SEARCH of the fewest moves, in numbers alone; and what a table's bounds are by its rows -/
def Dif (h h' : XH) (S : Nat → Prop) : Prop := h'.length = h.length ∧ ∀ i, ¬ S i → h'[i]? = h[i]?
theorem Dif.refl (h : XH) (S : Nat → Prop) : Dif h h S := ⟨rfl, fun _ _ => rfl⟩
theorem Dif.trans {a b c : XH} {S : Nat → Prop} (h1 : Dif a b S) (h2 : Dif b c S) : Dif a c S := ⟨h2.1.trans h1.1, fun i hi => (h2.2 i hi).trans (h1.2 i hi)⟩
theorem Same.dif {h h' : XH} {lo hi : Nat} {S : Nat → Prop} (s : Same h h' lo hi) (hS : ∀ i, lo ≤ i → i < hi → S i) : Dif h h' S :=
  ⟨s.1, fun i hi2 => s.2 i (by by_cases g : i < lo; exact Or.inl g; exact Or.inr (by apply Nat.le_of_not_lt; intro g2; exact hi2 (hS i (by omega) g2)))⟩
theorem Dif.weak {h h' : XH} {S S' : Nat → Prop} (D : Dif h h' S) (hS : ∀ i, S i → S' i) : Dif h h' S' := ⟨D.1, fun i hi => D.2 i (fun q => hi (hS i q))⟩
theorem Dif.mid {h h' : XH} {S : Nat → Prop} {b e : Nat} (D : Dif h h' S) (hS : ∀ i, b ≤ i → i < e → ¬ S i) : ∃ h1, Same h h1 0 b ∧ Same h1 h' e h.length := by
  have hl := D.1
  refine ⟨h'.take e ++ h.drop e, ⟨?_, ?_⟩, ?_, ?_⟩
  · simp; omega
  · intro i hi
    by_cases g : i < e
    · rw [List.getElem?_append]
      by_cases g2 : i < h'.length
      · rw [if_pos (by simp; omega), List.getElem?_take, if_pos g]
        exact D.2 i (hS i (by omega) g)
      · rw [if_neg (by simp; omega), List.getElem?_eq_none (by simp; omega), List.getElem?_eq_none (by omega)]
    · rw [List.getElem?_append]
      by_cases g2 : i < h'.length
      · rw [if_neg (by simp; omega), List.getElem?_drop]
        congr 1
        simp
        omega
      · rw [if_neg (by simp; omega), List.getElem?_eq_none (by simp; omega), List.getElem?_eq_none (by omega)]
  · simp; omega
  · intro i hi
    rcases hi with g | g
    · by_cases g2 : i < h'.length
      · rw [List.getElem?_append, if_pos (by simp; omega), List.getElem?_take, if_pos g]
      · rw [List.getElem?_eq_none (by omega), List.getElem?_eq_none (by simp; omega)]
    · rw [List.getElem?_eq_none (by omega), List.getElem?_eq_none (by simp; omega)]
theorem Dif.go {P : XH → Prop} {h h' : XH} {S : Nat → Prop} {b e : Nat} (D : Dif h h' S) (hS : ∀ i, b ≤ i → i < e → ¬ S i) (hP : ∀ h1 h2 lo hi, Same h1 h2 lo hi → (e ≤ lo ∨ hi ≤ b) → P h1 → P h2) (p : P h) : P h' := by
  obtain ⟨h1, s1, s2⟩ := D.mid hS
  exact hP _ _ _ _ s2 (Or.inl (Nat.le_refl _)) (hP _ _ _ _ s1 (Or.inr (Nat.le_refl _)) p)
/-- the first that is there -/
def fso {α : Type} (f : Nat → Option α) : Nat → Nat → Option α
  | _, 0 => none
  | i, n + 1 => match f i with
    | some a => some a
    | none => fso f (i + 1) n
theorem fso_succ {α : Type} {f : Nat → Option α} {i n : Nat} : fso f i (n + 1) = match f i with | some a => some a | none => fso f (i + 1) n := rfl
theorem fso_none {α : Type} {f : Nat → Option α} : ∀ {n i : Nat}, fso f i n = none ↔ ∀ j, i ≤ j → j < i + n → f j = none := by
  intro n
  induction n with
  | zero => intro i; simp [fso]; intro j h1 h2; omega
  | succ n ih =>
    intro i
    unfold fso
    cases hf : f i with
    | some a => simp; exact ⟨i, by omega, by omega, by simp [hf]⟩
    | none =>
      simp only [ih]
      constructor
      · intro h j h1 h2
        by_cases g : j = i
        · rw [g]; exact hf
        · exact h j (by omega) (by omega)
      · intro h j h1 h2
        exact h j (by omega) (by omega)
theorem fso_app {α : Type} {f : Nat → Option α} : ∀ {n i m : Nat}, fso f i (n + m) = match fso f i n with | some a => some a | none => fso f (i + n) m := by
  intro n
  induction n with
  | zero => intro i m; simp [fso]
  | succ n ih =>
    intro i m
    rw [show n + 1 + m = (n + m) + 1 by omega]
    have e1 : ∀ k, fso f i (k + 1) = match f i with | some a => some a | none => fso f (i + 1) k := fun k => rfl
    rw [e1, e1]
    cases f i with
    | some a => rfl
    | none =>
      simp only
      rw [ih, show i + 1 + n = i + (n + 1) by omega]
theorem fso_cut {α : Type} {f : Nat → Option α} {e lo n : Nat} (h1 : lo + n ≤ e) (hl : ∀ j, j < lo → f j = none) (hh : ∀ j, lo + n ≤ j → j < e → f j = none) : fso f 0 e = fso f lo n := by
  rw [show e = lo + (n + (e - lo - n)) by omega, fso_app, fso_none.mpr (fun j _ h2 => hl j (by omega))]
  simp only
  rw [fso_app (n := n), Nat.zero_add, fso_none.mpr (fun j h3 h4 => hh j h3 (by omega))]
  cases fso f lo n <;> rfl
theorem fso_congr {α : Type} {f g : Nat → Option α} : ∀ {n i : Nat}, (∀ j, i ≤ j → j < i + n → f j = g j) → fso f i n = fso g i n
  | 0, i, _ => rfl
  | n + 1, i, h => by
    unfold fso
    rw [h i (by omega) (by omega)]
    cases g i with
    | some a => rfl
    | none => exact fso_congr (fun j h1 h2 => h j (by omega) (by omega))
def rkX (l : List Rl) (x : Nat × Nat) : Nat := (rlN l x.1).1
def mtX (l : List Rl) (x y : Nat × Nat) : Bool := decide ((rwV (rlN l x.1) x.2 ^^^ rwV (rlN l y.1) y.2) &&& rwC (rlN l x.1) x.2 &&& rwC (rlN l y.1) y.2 = 0)
def blA (l : List Rl) (σ : Sl) (x : Nat × Nat) (s : Nat) : Bool := match σ s with
  | none => false
  | some y => decide (rkX l y < rkX l x) && mtX l y x
def abA (l : List Rl) (σ : Sl) (x : Nat × Nat) (s : Nat) : Bool := match σ s with
  | none => false
  | some y => decide (rkX l x < rkX l y) && mtX l y x
def flA (l : List Rl) (σ : Sl) (x : Nat × Nat) : Nat := match fdn (blA l σ x) 16 with
  | some s => s + 1
  | none => 0
def ceA (l : List Rl) (σ : Sl) (x : Nat × Nat) : Nat := match fup (abA l σ x) 0 16 with
  | some s => s
  | none => 16
def emA (σ : Sl) (s : Nat) : Bool := (σ s).isNone
def loA (l : List Rl) (σ : Sl) (x : Nat × Nat) : Option Nat := fup (emA σ) (flA l σ x) (ceA l σ x - flA l σ x)
def mvS (σ : Sl) (f t : Nat) : Sl := fun s => if s = f then none else if s = t then σ f else σ s
def ptS (σ : Sl) (s : Nat) (x : Nat × Nat) : Sl := fun i => if i = s then some x else σ i
theorem flA_le (l : List Rl) (σ : Sl) (x : Nat × Nat) : flA l σ x ≤ 16 := by
  unfold flA
  cases hq : fdn (blA l σ x) 16 with
  | none => simp
  | some s => have := (fdn_some.mp hq).1; simp; omega
theorem ceA_le (l : List Rl) (σ : Sl) (x : Nat × Nat) : ceA l σ x ≤ 16 := by
  unfold ceA
  cases hq : fup (abA l σ x) 0 16 with
  | none => simp
  | some s => have := (fup_some.mp hq).2.1; simp; omega
abbrev Mvs : Type := List (Nat × Nat)
def srM (σ : Sl) (rec : Sl → Option (Sl × Mvs)) (f t : Nat) : Option (Sl × Mvs) := if (σ t).isSome = true then none else (rec (mvS σ f t)).map fun r => (r.1, (f, t) :: r.2)
def srF (l : List Rl) (σ : Sl) (rec : Sl → Option (Sl × Mvs)) (f : Nat) : Option (Sl × Mvs) := match σ f with
  | none => none
  | some x => fso (srM σ rec f) (flA l σ x) (ceA l σ x - flA l σ x)
def srch (l : List Rl) (w : Nat × Nat) : Nat → Sl → Option (Sl × Mvs)
  | 0, σ => (loA l σ w).map fun s => (ptS σ s w, [])
  | k + 1, σ => fso (srF l σ (srch l w k)) 0 16
/-- the rows of a table and the one that waits -/
def Tb (h : XH) (t : Nat) (l : List Rl) (σ : Sl) (o : Option (Nat × Nat)) : Prop := ∃ R P C V, Tab h t R P C V ∧ (∀ s, s < 16 → slIs l R P C V s (σ s)) ∧ slIs l R P C V 16 o
theorem mts_eq {l : List Rl} {R P C V : Nat → Int32} {a b : Nat} {x y : Nat × Nat} (h1 : rowIs l R P C V a x) (h2 : rowIs l R P C V b y) : mts C V a b = mtX l x y := by
  unfold mts mtX
  rw [h1.2.2.2.2.1, h1.2.2.2.2.2, h2.2.2.2.2.1, h2.2.2.2.2.2, nx_xor, nx_and, nx_and]
  apply decide_eq_decide.mpr
  refine nI_eq ?_ (by decide)
  exact Nat.lt_of_le_of_lt Nat.and_le_right (Nat.lt_trans (rwC_lt _ _) (by decide))
theorem rkX_lt {l : List Rl} {x : Nat × Nat} (hv : ∀ q ∈ l, vr q) (hx : x.1 < l.length) : rkX l x < 100 := (hv _ (rlN_mem hx)).1
theorem blw_eq {l : List Rl} {R P C V : Nat → Int32} {σ : Sl} {p s : Nat} {x : Nat × Nat} (hv : ∀ q ∈ l, vr q) (h1 : slIs l R P C V s (σ s)) (h2 : rowIs l R P C V p x) : blw R C V p s = blA l σ x s := by
  unfold blw blA
  rw [slIs_emp hv h1]
  cases hs : σ s with
  | none => rfl
  | some y =>
    rw [hs] at h1
    have h1 : rowIs l R P C V s y := h1
    have a1 := rkX_lt hv h1.1
    have a2 := rkX_lt hv h2.1
    rw [mts_eq h1 h2, h1.2.2.1, h2.2.2.1]
    simp only [Option.isNone_some, Bool.not_false, Bool.true_and]
    congr 1
    exact decide_eq_decide.mpr (nI_ltI (show rkX l y < 2 ^ 31 by omega) (show rkX l x < 2 ^ 31 by omega))
theorem abv_eq {l : List Rl} {R P C V : Nat → Int32} {σ : Sl} {p s : Nat} {x : Nat × Nat} (hv : ∀ q ∈ l, vr q) (h1 : slIs l R P C V s (σ s)) (h2 : rowIs l R P C V p x) : abv R C V p s = abA l σ x s := by
  unfold abv abA
  rw [slIs_emp hv h1]
  cases hs : σ s with
  | none => rfl
  | some y =>
    rw [hs] at h1
    have h1 : rowIs l R P C V s y := h1
    have a1 := rkX_lt hv h1.1
    have a2 := rkX_lt hv h2.1
    rw [mts_eq h1 h2, h1.2.2.1, h2.2.2.1]
    simp only [Option.isNone_some, Bool.not_false, Bool.true_and]
    congr 1
    exact decide_eq_decide.mpr (nI_ltI (show rkX l x < 2 ^ 31 by omega) (show rkX l y < 2 ^ 31 by omega))
theorem flN_eq {l : List Rl} {R P C V : Nat → Int32} {σ : Sl} {p : Nat} {x : Nat × Nat} (hv : ∀ q ∈ l, vr q) (h1 : ∀ s, s < 16 → slIs l R P C V s (σ s)) (h2 : rowIs l R P C V p x) : flN R C V p = flA l σ x := by
  unfold flN flA
  rw [fdn_congr (fun j hj => blw_eq hv (h1 j hj) h2)]
  rfl
theorem ceN_eq {l : List Rl} {R P C V : Nat → Int32} {σ : Sl} {p : Nat} {x : Nat × Nat} (hv : ∀ q ∈ l, vr q) (h1 : ∀ s, s < 16 → slIs l R P C V s (σ s)) (h2 : rowIs l R P C V p x) : ceN R C V p = ceA l σ x := by
  unfold ceN ceA
  rw [fup_congr (fun j _ hj => abv_eq hv (h1 j (by omega)) h2)]
  rfl
section Prune
variable {l : List Rl} {w : Nat × Nat}
theorem flA_ge {σ : Sl} {x : Nat × Nat} {s : Nat} (hs : s < 16) (hb : blA l σ x s = true) : s + 1 ≤ flA l σ x := by
  unfold flA
  cases hq : fdn (blA l σ x) 16 with
  | none => have := fdn_none.mp hq s hs; rw [hb] at this; cases this
  | some m =>
    simp only
    apply Nat.succ_le_succ
    apply Nat.le_of_not_lt
    intro g
    have := (fdn_some.mp hq).2.2 s g hs
    rw [hb] at this
    cases this
theorem ceA_leOf {σ : Sl} {x : Nat × Nat} {s : Nat} (hs : s < 16) (hb : abA l σ x s = true) : ceA l σ x ≤ s := by
  unfold ceA
  cases hq : fup (abA l σ x) 0 16 with
  | none => have := fup_none.mp hq s (by omega) (by omega); rw [hb] at this; cases this
  | some m =>
    simp only
    apply Nat.le_of_not_lt
    intro g
    have := (fup_some.mp hq).2.2.2 s (by omega) g
    rw [hb] at this
    cases this
theorem flA_at {σ : Sl} {x : Nat × Nat} (h : 0 < flA l σ x) : blA l σ x (flA l σ x - 1) = true := by
  unfold flA at h ⊢
  cases hq : fdn (blA l σ x) 16 with
  | none => rw [hq] at h; simp at h
  | some m => simp; exact (fdn_some.mp hq).2.1
theorem ceA_at {σ : Sl} {x : Nat × Nat} (h : ceA l σ x < 16) : abA l σ x (ceA l σ x) = true := by
  unfold ceA at h ⊢
  cases hq : fup (abA l σ x) 0 16 with
  | none => rw [hq] at h; simp at h
  | some m => simp; exact (fup_some.mp hq).2.2.1
theorem prune {σ : Sl} (h0 : loA l σ w = none) {f t : Nat} (hf : f < 16) (ht : t < 16) (h1 : (σ f).isSome = true) (h2 : σ t = none)
    (ho : f < min (flA l σ w - 1) (ceA l σ w) ∨ max (flA l σ w - 1) (ceA l σ w) < f) : loA l (mvS σ f t) w = none := by
  have hn : ∀ s, flA l σ w ≤ s → s < ceA l σ w → σ s ≠ none := by
    intro s g1 g2
    have := fup_none.mp h0 s g1 (by omega)
    unfold emA at this
    intro e
    rw [e] at this
    cases this
  have hmv : ∀ s, s ≠ f → σ s ≠ none → mvS σ f t s = σ s := by
    intro s g1 g2
    unfold mvS
    rw [if_neg g1, if_neg (fun e => g2 (by rw [e]; exact h2))]
  have hfl : flA l σ w ≤ flA l (mvS σ f t) w := by
    by_cases g : 0 < flA l σ w
    · have hb := flA_at g
      have := flA_le l σ w
      have hb2 : blA l (mvS σ f t) w (flA l σ w - 1) = true := by
        unfold blA at hb ⊢
        rw [hmv _ (by omega) (by intro e; rw [e] at hb; cases hb)]
        exact hb
      have := flA_ge (by omega) hb2
      omega
    · omega
  have hce : ceA l (mvS σ f t) w ≤ ceA l σ w := by
    by_cases g : ceA l σ w < 16
    · have hb := ceA_at g
      refine ceA_leOf g ?_
      unfold abA at hb ⊢
      rw [hmv _ (by omega) (by intro e; rw [e] at hb; cases hb)]
      exact hb
    · have := ceA_le l (mvS σ f t) w
      omega
  refine fup_none.mpr (fun s g1 g2 => ?_)
  unfold emA
  have hs := hn s (by omega) (by omega)
  rw [hmv s (by omega) hs]
  cases hq : σ s with
  | none => exact absurd hq hs
  | some y => rfl
theorem srF_prune {σ : Sl} (h0 : loA l σ w = none) {f : Nat} (hf : f < 16) (ho : f < min (flA l σ w - 1) (ceA l σ w) ∨ max (flA l σ w - 1) (ceA l σ w) < f) : srF l σ (srch l w 0) f = none := by
  unfold srF
  cases hx : σ f with
  | none => rfl
  | some x =>
    refine fso_none.mpr (fun t g1 g2 => ?_)
    unfold srM
    cases ht : σ t with
    | some y => rfl
    | none =>
      have := ceA_le l σ x
      have hp := prune h0 hf (show t < 16 by omega) (by rw [hx]; rfl) ht ho
      simp [srch, hp]
theorem srch_step {σ : Sl} {k : Nat} (h : srch l w (k + 1) σ = none) {f t : Nat} {x : Nat × Nat} (hf : f < 16) (hx : σ f = some x) (h1 : flA l σ x ≤ t) (h2 : t < ceA l σ x) (ht : σ t = none) : srch l w k (mvS σ f t) = none := by
  unfold srch at h
  have a := fso_none.mp h f (by omega) (by omega)
  unfold srF at a
  rw [hx] at a
  have b := fso_none.mp a t h1 (by omega)
  unfold srM at b
  rw [ht] at b
  simpa using b
end Prune
