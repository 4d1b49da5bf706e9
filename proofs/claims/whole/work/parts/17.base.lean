/-! BASICS for the methods' equations: numbers, loops, cells -/
theorem if_t {α : Type} {c : Prop} [Decidable c] {a b : α} (h : c) : (if c then a else b) = a := if_pos h
theorem if_f {α : Type} {c : Prop} [Decidable c] {a b : α} (h : ¬ c) : (if c then a else b) = b := if_neg h
/-- a truth as a number -/
def bI (b : Bool) : Int32 := if b = true then nI 1 else nI 0
theorem bI_t : bI true = nI 1 := rfl
theorem bI_f : bI false = nI 0 := rfl
theorem bI_0 (b : Bool) : (bI b = nI 0) = (b = false) := by cases b <;> simp [bI] <;> decide
theorem bI_1 (b : Bool) : (bI b = nI 1) = (b = true) := by cases b <;> simp [bI] <;> decide
theorem bI_rk (b : Bool) : rkOf (some .boolean) (bI b) = true := by cases b <;> decide
theorem rk_0 : rkOf (some .boolean) (nI 0) = true := by decide
theorem rk_1 : rkOf (some .boolean) (nI 1) = true := by decide
theorem ite_bI (p : Prop) [Decidable p] : (if p then nI 1 else nI 0) = bI (decide p) := by by_cases h : p <;> simp [bI, h]
theorem ite_nbI (p : Prop) [Decidable p] : (if p then nI 0 else nI 1) = bI (!decide p) := by by_cases h : p <;> simp [bI, h]
theorem nI_tn {n : Nat} (h : n < 2 ^ 31) : (nI n).toNatClampNeg = n := nI_clamp h
theorem nI_neg {n : Nat} (h : n < 2 ^ 31) (x : Int32) (hx : x < 0) : ¬ nI n = x := by
  intro e
  rw [← e] at hx
  exact nI_pos h hx
theorem nI_n4 {n : Nat} (h : n < 2 ^ 31) : ¬ nI n = -4 := nI_neg h _ (by decide)
theorem nI_lt0 {n : Nat} (h : n < 2 ^ 31) : ¬ nI n < nI 0 := by rw [nI_ltI h (by decide)]; omega
theorem nI_ge0 {n : Nat} (h : n < 2 ^ 31) : nI 0 ≤ nI n := by rw [nI_leI (by decide) h]; omega
theorem m4_lt0 : ((-4 : Int32) < nI 0) = True := by decide
theorem m4_ge0 : (nI 0 ≤ (-4 : Int32)) = False := by decide
theorem m1_lt0 : ((-1 : Int32) < nI 0) = True := by decide
theorem xin_nI {k n : Nat} (h : k < n) (hn : n < 2 ^ 31) : xin (nI k) n = true := by
  unfold xin
  rw [nI_clamp (by omega)]
  simp [h, nI_pos (show k < 2 ^ 31 by omega)]
/-- an int array -/
abbrev ia (n : Nat) (f : Nat → Int32) : XC := .inr (.inl (0, n, f))
theorem xar_ia {h : XH} {t n : Nat} {f : Nat → Int32} (e : h[t]? = some (ia n f)) : xar h t 0 = some (n, f) := by
  unfold xar
  rw [e]
  rfl
theorem xld_ia {h : XH} {t n : Nat} {f : Nat → Int32} (e : h[t]? = some (ia n f)) (hn : n < 2 ^ 31) {k : Nat} (hk : k < n) : xld h t 0 (nI k) = some (f k) := by
  unfold xld
  rw [xar_ia e]
  simp only [Option.bind_some]
  rw [if_pos (xin_nI hk hn), nI_clamp (by omega)]
theorem xst_ia {h : XH} {t n : Nat} {f : Nat → Int32} (e : h[t]? = some (ia n f)) (hn : n < 2 ^ 31) {k : Nat} (hk : k < n) (x : Int32) : xst h t 0 (nI k) x = some (h.set t (ia n (upd f k x))) := by
  unfold xst
  rw [xar_ia e]
  simp only [Option.bind_some]
  rw [if_pos (by rw [xin_nI hk hn]; rfl), nI_clamp (by omega)]
theorem xgf_o {h : XH} {t ci : Nat} {fs : List Value} (e : h[t]? = some (.inl (ci, fs))) (k : Nat) : xgf h t ci k = fs[k]? := by
  unfold xgf
  rw [e]
  simp
theorem xcls_o {h : XH} {t ci : Nat} {fs : List Value} (e : h[t]? = some (.inl (ci, fs))) : xcls h (.ref t) = some ci := by
  unfold xcls
  simp [e]
theorem xpf_o {h : XH} {t ci : Nat} {fs : List Value} (e : h[t]? = some (.inl (ci, fs))) {k : Nat} (hk : k < fs.length) (v : Value) : xpf h t ci k v = some (h.set t (.inl (ci, fs.set k v))) := by
  unfold xpf
  rw [e]
  simp [hk]
/-- searches and counts -/
def fup (p : Nat → Bool) : Nat → Nat → Option Nat
  | _, 0 => none
  | i, k + 1 => if p i = true then some i else fup p (i + 1) k
def fdn (p : Nat → Bool) : Nat → Option Nat
  | 0 => none
  | k + 1 => if p k = true then some k else fdn p k
def ct (p : Nat → Bool) : Nat → Nat
  | 0 => 0
  | n + 1 => ct p n + (if p n = true then 1 else 0)
def alb (p : Nat → Bool) : Nat → Bool
  | 0 => true
  | n + 1 => alb p n && p n
theorem loop_fup {α : Type} (F : Nat → α) (p : Nat → Bool) (r : Nat → α) (e : Nat) (hs : ∀ j, j < e → F j = if p j = true then r j else F (j + 1)) : ∀ (k i : Nat), i + k = e → F i = match fup p i k with
    | some j => r j
    | none => F e := by
  intro k
  induction k with
  | zero => intro i h; simp [fup, show i = e by omega]
  | succ k ih =>
    intro i h
    rw [hs i (by omega)]
    unfold fup
    by_cases hp : p i = true
    · simp [hp]
    · rw [if_neg hp, if_neg hp]
      exact ih (i + 1) (by omega)
/-- F k: still to look at k - 1, .., 0 -/
theorem loop_fdn {α : Type} (F : Nat → α) (p : Nat → Bool) (r : Nat → α) : ∀ (e : Nat), (∀ j, j < e → F (j + 1) = if p j = true then r j else F j) → F e = match fdn p e with
    | some j => r j
    | none => F 0 := by
  intro e
  induction e with
  | zero => intro _; rfl
  | succ k ih =>
    intro hs
    rw [hs k (by omega)]
    unfold fdn
    by_cases hp : p k = true
    · simp [hp]
    · rw [if_neg hp, if_neg hp]
      exact ih (fun j hj => hs j (by omega))
theorem ct_le (p : Nat → Bool) : ∀ n, ct p n ≤ n
  | 0 => Nat.le_refl _
  | n + 1 => by
    have := ct_le p n
    unfold ct
    split <;> omega
theorem loop_ct {α : Type} (F : Nat → Nat → α) (p : Nat → Bool) (e : Nat) (hs : ∀ j c, j < e → c ≤ j → F j c = F (j + 1) (c + (if p j = true then 1 else 0))) : ∀ n, n ≤ e → F 0 0 = F n (ct p n) := by
  intro n
  induction n with
  | zero => intro _; rfl
  | succ n ih =>
    intro h
    rw [ih (by omega), hs n _ (by omega) (ct_le p n)]
    rfl
theorem loop_alb {α : Type} (F : Nat → α) (p : Nat → Bool) (r : α) (e : Nat) (hs : ∀ j, j < e → F j = if p j = true then F (j + 1) else r) : ∀ k i, i + k = e → F i = if fup (fun j => !p j) i k = none then F e else r := by
  intro k
  induction k with
  | zero => intro i h; simp [fup, show i = e by omega]
  | succ k ih =>
    intro i h
    rw [hs i (by omega)]
    unfold fup
    by_cases hp : p i = true
    · rw [if_pos hp, ih (i + 1) (by omega)]
      simp [hp]
    · rw [if_neg hp]
      simp [hp]
theorem fup_none {p : Nat → Bool} : ∀ {k i : Nat}, fup p i k = none ↔ ∀ j, i ≤ j → j < i + k → p j = false := by
  intro k
  induction k with
  | zero => intro i; simp [fup]; intro j h1 h2; omega
  | succ k ih =>
    intro i
    unfold fup
    by_cases hp : p i = true
    · rw [if_pos hp]
      constructor
      · intro h; cases h
      · intro h
        have := h i (Nat.le_refl _) (by omega)
        rw [hp] at this
        cases this
    · rw [if_neg hp, ih]
      constructor
      · intro h j h1 h2
        by_cases hj : j = i
        · subst hj; simpa using hp
        · exact h j (by omega) (by omega)
      · intro h j h1 h2
        exact h j (by omega) (by omega)
theorem fup_some {p : Nat → Bool} : ∀ {k i m : Nat}, fup p i k = some m ↔ (i ≤ m ∧ m < i + k ∧ p m = true ∧ ∀ j, i ≤ j → j < m → p j = false) := by
  intro k
  induction k with
  | zero => intro i m; simp [fup]; intro h1 h2; omega
  | succ k ih =>
    intro i m
    unfold fup
    by_cases hp : p i = true
    · rw [if_pos hp]
      constructor
      · intro h; cases h; exact ⟨Nat.le_refl _, by omega, hp, fun j h1 h2 => by omega⟩
      · intro ⟨h1, h2, h3, h4⟩
        by_cases hm : m = i
        · rw [hm]
        · have := h4 i (Nat.le_refl _) (by omega)
          rw [hp] at this
          cases this
    · rw [if_neg hp, ih]
      constructor
      · intro ⟨h1, h2, h3, h4⟩
        refine ⟨by omega, by omega, h3, fun j g1 g2 => ?_⟩
        by_cases hj : j = i
        · subst hj; simpa using hp
        · exact h4 j (by omega) g2
      · intro ⟨h1, h2, h3, h4⟩
        have hm : m ≠ i := by intro e; subst e; exact hp h3
        exact ⟨by omega, by omega, h3, fun j g1 g2 => h4 j (by omega) g2⟩
theorem fdn_none {p : Nat → Bool} : ∀ {k : Nat}, fdn p k = none ↔ ∀ j, j < k → p j = false := by
  intro k
  induction k with
  | zero => simp [fdn]
  | succ k ih =>
    unfold fdn
    by_cases hp : p k = true
    · rw [if_pos hp]
      constructor
      · intro h; cases h
      · intro h
        have := h k (by omega)
        rw [hp] at this
        cases this
    · rw [if_neg hp, ih]
      constructor
      · intro h j h1
        by_cases hj : j = k
        · subst hj; simpa using hp
        · exact h j (by omega)
      · intro h j h1
        exact h j (by omega)
theorem fdn_some {p : Nat → Bool} : ∀ {k m : Nat}, fdn p k = some m ↔ (m < k ∧ p m = true ∧ ∀ j, m < j → j < k → p j = false) := by
  intro k
  induction k with
  | zero => intro m; simp [fdn]
  | succ k ih =>
    intro m
    unfold fdn
    by_cases hp : p k = true
    · rw [if_pos hp]
      constructor
      · intro h; cases h; exact ⟨by omega, hp, fun j h1 h2 => by omega⟩
      · intro ⟨h1, h2, h3⟩
        by_cases hm : m = k
        · rw [hm]
        · have := h3 k (by omega) (by omega)
          rw [hp] at this
          cases this
    · rw [if_neg hp, ih]
      constructor
      · intro ⟨h1, h2, h3⟩
        refine ⟨by omega, h2, fun j g1 g2 => ?_⟩
        by_cases hj : j = k
        · subst hj; simpa using hp
        · exact h3 j g1 (by omega)
      · intro ⟨h1, h2, h3⟩
        have hm : m ≠ k := by intro e; subst e; exact hp h2
        exact ⟨by omega, h2, fun j g1 g2 => h3 j g1 (by omega)⟩
/-- an answer of a search, none is -4 -/
def oI (o : Option Nat) : Int32 := match o with
  | some j => nI j
  | none => -4
theorem oI_some (j : Nat) : oI (some j) = nI j := rfl
theorem oI_none : oI none = -4 := rfl
/-- nothing outside [lo, hi) has changed -/
def Same (h h' : XH) (lo hi : Nat) : Prop := h'.length = h.length ∧ ∀ i : Nat, (i < lo ∨ hi ≤ i) → h'[i]? = h[i]?
theorem Same.refl (h : XH) (lo hi : Nat) : Same h h lo hi := ⟨rfl, fun _ _ => rfl⟩
theorem Same.set {h h' : XH} {lo hi t : Nat} (s : Same h h' lo hi) (h1 : lo ≤ t) (h2 : t < hi) (c : XC) : Same h (h'.set t c) lo hi := by
  refine ⟨by rw [List.length_set]; exact s.1, fun i hi2 => ?_⟩
  rw [List.getElem?_set_ne (by omega)]
  exact s.2 i hi2
theorem Same.trans {a b c : XH} {lo hi : Nat} (h1 : Same a b lo hi) (h2 : Same b c lo hi) : Same a c lo hi := ⟨h2.1.trans h1.1, fun i hi => (h2.2 i hi).trans (h1.2 i hi)⟩
theorem Same.weak {a b : XH} {lo hi lo' hi' : Nat} (h : Same a b lo hi) (h1 : lo' ≤ lo) (h2 : hi ≤ hi') : Same a b lo' hi' := ⟨h.1, fun i hi => h.2 i (by omega)⟩
theorem get_set {h : XH} {t : Nat} {c0 : XC} (e : h[t]? = some c0) (c : XC) : (h.set t c)[t]? = some c := List.getElem?_set_self (List.getElem?_eq_some_iff.mp e).1
theorem get_ne {h : XH} {t i : Nat} (c : XC) (hi : t ≠ i) : (h.set t c)[i]? = h[i]? := List.getElem?_set_ne hi
theorem ct_congr {p q : Nat → Bool} : ∀ {n : Nat}, (∀ j, j < n → p j = q j) → ct p n = ct q n
  | 0, _ => rfl
  | n + 1, h => by
    unfold ct
    rw [ct_congr (fun j hj => h j (by omega)), h n (by omega)]
theorem fup_congr {p q : Nat → Bool} : ∀ {k i : Nat}, (∀ j, i ≤ j → j < i + k → p j = q j) → fup p i k = fup q i k
  | 0, _, _ => rfl
  | k + 1, i, h => by
    unfold fup
    rw [h i (Nat.le_refl _) (by omega), fup_congr (fun j h1 h2 => h j (by omega) (by omega))]
theorem fdn_congr {p q : Nat → Bool} : ∀ {k : Nat}, (∀ j, j < k → p j = q j) → fdn p k = fdn q k
  | 0, _ => rfl
  | k + 1, h => by
    unfold fdn
    rw [h k (by omega), fdn_congr (fun j hj => h j (by omega))]
/-- a count that begins at i0 -/
theorem loop_ctr {α : Type} (F : Nat → Nat → α) (p : Nat → Bool) (i0 e : Nat) (hs : ∀ j c, i0 ≤ j → j < e → c ≤ j → F j c = F (j + 1) (c + (if p j = true then 1 else 0))) : ∀ n, i0 + n ≤ e → F i0 0 = F (i0 + n) (ct (fun j => decide (i0 ≤ j) && p j) (i0 + n)) := by
  have h0 : ∀ m, m ≤ i0 → ct (fun j => decide (i0 ≤ j) && p j) m = 0 := by
    intro m
    induction m with
    | zero => intro _; rfl
    | succ m ih =>
      intro h
      unfold ct
      rw [ih (by omega)]
      simp
      omega
  intro n
  induction n with
  | zero => intro _; rw [h0 (i0 + 0) (by omega)]; rfl
  | succ n ih =>
    intro h
    rw [ih (by omega), hs (i0 + n) _ (by omega) (by omega) (ct_le _ _)]
    show _ = F (i0 + n + 1) (ct _ (i0 + n) + _)
    simp
/-- a value carried through a loop -/
def itr {σ : Type} (f : Nat → σ → σ) (a : σ) : Nat → σ
  | 0 => a
  | n + 1 => f n (itr f a n)
theorem loop_itr {α σ : Type} (F : Nat → σ → α) (f : Nat → σ → σ) (a : σ) (e : Nat) (hs : ∀ j, j < e → F j (itr f a j) = F (j + 1) (f j (itr f a j))) : ∀ n, n ≤ e → F 0 a = F n (itr f a n) := by
  intro n
  induction n with
  | zero => intro _; rfl
  | succ n ih =>
    intro h
    rw [ih (by omega), hs n (by omega)]
    rfl
theorem itr_congr {σ : Type} {f g : Nat → σ → σ} {a : σ} : ∀ {n : Nat}, (∀ j x, j < n → f j x = g j x) → itr f a n = itr g a n
  | 0, _ => rfl
  | n + 1, h => by
    unfold itr
    rw [itr_congr (fun j x hj => h j x (by omega)), h n _ (by omega)]
theorem nI_m1p1 (x : Int32) : x + (-1) + nI 1 = x := by
  rw [Int32.add_assoc]
  show x + 0 = x
  simp
theorem nI_lem1 {s f : Nat} (hs : s < 2 ^ 30) (hf : f < 2 ^ 30) : nI s ≤ nI f + (-1) ↔ s < f := by
  cases f with
  | zero =>
    constructor
    · intro h
      have h2 : nI s < nI 0 := Int32.lt_of_le_of_lt h (by decide)
      rw [nI_ltI (by omega) (by decide)] at h2
      omega
    · intro h; omega
  | succ f =>
    rw [pk_m1, nI_leI (by omega) (by omega)]
    omega
theorem nI_m1le {s f : Nat} (hs : s < 2 ^ 30) (hf : f < 2 ^ 30) : nI f + (-1) ≤ nI s ↔ f ≤ s + 1 := by
  cases f with
  | zero =>
    constructor
    · intro _; omega
    · intro _
      exact Int32.le_of_lt (Int32.lt_of_lt_of_le (show nI 0 + (-1) < nI 0 by decide) (nI_ge0 (by omega)))
  | succ f =>
    rw [pk_m1, nI_leI (by omega) (by omega)]
    omega
theorem nI_m1lem1 {s f : Nat} (hs : s < 2 ^ 30) (hf : f < 2 ^ 30) : nI s + (-1) ≤ nI f + (-1) ↔ s ≤ f := by
  cases s with
  | zero =>
    constructor
    · intro _; omega
    · intro _
      cases f with
      | zero => exact Int32.le_refl _
      | succ f => rw [pk_m1]; exact Int32.le_of_lt (Int32.lt_of_lt_of_le (show nI 0 + (-1) < nI 0 by decide) (nI_ge0 (by omega)))
  | succ s => rw [pk_m1, nI_lem1 (by omega) hf]; omega
theorem nI_sub1 (n : Nat) : nI n - nI 1 = nI n + (-1) := by
  rw [Int32.sub_eq_add_neg]
  rfl
