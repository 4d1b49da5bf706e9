/-! MATHS: a row fits what its rule has; the table answers as the list does -/
theorem and_xor_in (k W C : Nat) : (k ^^^ (W &&& C)) &&& C = (k ^^^ W) &&& C := by
  refine Nat.eq_of_testBit_eq fun i => ?_
  simp only [Nat.testBit_and, Nat.testBit_xor]
  cases k.testBit i <;> cases W.testBit i <;> cases C.testBit i <;> rfl
theorem tail_fit : ∀ u, u < 16 → ∀ kt, kt < 16 → ∀ z, z < 5 → u % 2 ^ z = 0 → (decide ((kt ^^^ u) &&& (16 - 2 ^ z) = 0) = decide (u ≤ kt ∧ kt < u + 2 ^ z)) := by decide
theorem psz_dvd (u t : Nat) : u % psz u t = 0 := by
  unfold psz
  repeat' split
  all_goals omega
theorem psz_in {u t : Nat} (h : u ≤ t) : u + psz u t ≤ t + 1 := by
  unfold psz
  repeat' split
  all_goals omega
theorem fit_eq {q : Rl} (v : vr q) {p k : Nat} (hp : p < rwR q) : ((k ^^^ rwV q p) &&& rwC q p = 0) ↔ ((k / 16 ^^^ hvN q.2.1) &&& hcN q.2.1 = 0 ∧ tlN q p ≤ k % 16 ∧ k % 16 < tlN q p + psz (tlN q p) q.2.2.2.1) := by
  have v4 := v.2.2.2.1
  have ht := tl_le v hp
  unfold rwV rwC vwT
  generalize tlN q p = u at ht
  obtain ⟨z, hz, ez⟩ := psz_pow u q.2.2.2.1
  have hd := psz_dvd u q.2.2.2.1
  have z1 := (psz_pos u q.2.2.2.1).1
  have z16 := (psz_pos u q.2.2.2.1).2
  rw [and_xor_in]
  have hC1 : cwT q u / 16 = hcN q.2.1 := by unfold cwT; omega
  have hC2 : cwT q u % 16 = 16 - psz u q.2.2.2.1 := by unfold cwT; omega
  have hW1 : (hvN q.2.1 * 16 + u) / 16 = hvN q.2.1 := by omega
  have hW2 : (hvN q.2.1 * 16 + u) % 16 = u := by omega
  have e1 : ((k ^^^ (hvN q.2.1 * 16 + u)) &&& cwT q u) / 2 ^ 4 = (k / 16 ^^^ hvN q.2.1) &&& hcN q.2.1 := by
    rw [Nat.and_div_two_pow, Nat.xor_div_two_pow]
    show (k / 16 ^^^ (hvN q.2.1 * 16 + u) / 16) &&& (cwT q u / 16) = _
    rw [hC1, hW1]
  have e2 : ((k ^^^ (hvN q.2.1 * 16 + u)) &&& cwT q u) % 2 ^ 4 = (k % 16 ^^^ u) &&& (16 - psz u q.2.2.2.1) := by
    rw [Nat.and_mod_two_pow, Nat.xor_mod_two_pow]
    show (k % 16 ^^^ (hvN q.2.1 * 16 + u) % 16) &&& (cwT q u % 16) = _
    rw [hC2, hW2]
  have e3 : (k ^^^ (hvN q.2.1 * 16 + u)) &&& cwT q u = 0 ↔ ((k ^^^ (hvN q.2.1 * 16 + u)) &&& cwT q u) / 2 ^ 4 = 0 ∧ ((k ^^^ (hvN q.2.1 * 16 + u)) &&& cwT q u) % 2 ^ 4 = 0 := by omega
  rw [e3, e1, e2]
  rw [ez] at hd
  have tf := tail_fit u (by omega) (k % 16) (by omega) z hz hd
  rw [ez]
  have tf := decide_eq_decide.mp tf
  rw [tf]
theorem tl_ge (q : Rl) : ∀ p, q.2.2.1 ≤ tlN q p := by
  intro p
  induction p with
  | zero => exact Nat.le_refl _
  | succ p ih => rw [tl_succ]; omega
theorem tile {q : Rl} (v : vr q) {c : Nat} (h1 : q.2.2.1 ≤ c) (h2 : c ≤ q.2.2.2.1) : ∃ p, p < rwR q ∧ tlN q p ≤ c ∧ c < tlN q p + psz (tlN q p) q.2.2.2.1 := by
  have key : ∀ n, c < tlN q n → ∃ p, p < n ∧ tlN q p ≤ c ∧ c < tlN q p + psz (tlN q p) q.2.2.2.1 := by
    intro n
    induction n with
    | zero => intro h; have : tlN q 0 = q.2.2.1 := rfl; omega
    | succ n ih =>
      intro h
      by_cases g : c < tlN q n
      · obtain ⟨p, p1, p2⟩ := ih g
        exact ⟨p, by omega, p2⟩
      · rw [tl_succ] at h
        exact ⟨n, by omega, by omega, h⟩
  have := tl_end v
  exact key (rwR q) (by omega)
section FitR
variable {l : List Rl} {k : Nat}
theorem fit_has {x : Nat × Nat} (v : vr (rlN l x.1)) (hp : x.2 < rwR (rlN l x.1)) (h : fitX l x k = true) : hasR (rlN l x.1) k = true := by
  unfold fitX at h
  have h := (fit_eq v hp).mp (of_decide_eq_true h)
  have h1 := tl_le v hp
  have h2 := tl_ge (rlN l x.1) x.2
  have h3 := psz_in h1
  unfold hasR
  rw [decide_eq_true (show (rlN l x.1).2.2.1 ≤ k % 16 by omega), decide_eq_true (show k % 16 ≤ (rlN l x.1).2.2.2.1 by omega), decide_eq_true h.1]
  rfl
theorem has_fit {r : Nat} (v : vr (rlN l r)) (h : hasR (rlN l r) k = true) : ∃ p, p < rwR (rlN l r) ∧ fitX l (r, p) k = true := by
  unfold hasR at h
  simp only [Bool.and_eq_true, decide_eq_true_eq] at h
  obtain ⟨p, p1, p2, p3⟩ := tile v h.1 h.2.1
  refine ⟨p, p1, ?_⟩
  unfold fitX
  exact decide_eq_true ((fit_eq v p1).mpr ⟨h.2.2, p2, p3⟩)
theorem fit_meet {x y : Nat × Nat} (h1 : fitX l x k = true) (h2 : fitX l y k = true) : mtX l x y = true := by
  unfold fitX at h1 h2
  have h1 := of_decide_eq_true h1
  have h2 := of_decide_eq_true h2
  unfold mtX
  refine decide_eq_true (Nat.eq_of_testBit_eq fun i => ?_)
  have a1 := congrArg (fun n => n.testBit i) h1
  have a2 := congrArg (fun n => n.testBit i) h2
  simp only [Nat.testBit_and, Nat.testBit_xor, Nat.zero_testBit] at a1 a2 ⊢
  generalize (rwV (rlN l x.1) x.2).testBit i = b1 at a1 ⊢
  generalize (rwV (rlN l y.1) y.2).testBit i = b2 at a2 ⊢
  generalize (rwC (rlN l x.1) x.2).testBit i = b3 at a1 ⊢
  generalize (rwC (rlN l y.1) y.2).testBit i = b4 at a2 ⊢
  generalize k.testBit i = b5 at a1 a2
  revert a1 a2
  cases b1 <;> cases b2 <;> cases b3 <;> cases b4 <;> cases b5 <;> decide
end FitR
def Vld (l : List Rl) (σ : Sl) : Prop := ∀ s x, s < 16 → σ s = some x → x.1 < l.length ∧ x.2 < rwR (rlN l x.1)
def Unq (σ : Sl) : Prop := ∀ s t x, s < 16 → t < 16 → σ s = some x → σ t = some x → s = t
def Prs (σ : Sl) (x : Nat × Nat) : Prop := ∃ s, s < 16 ∧ σ s = some x
def Ord (l : List Rl) (σ : Sl) : Prop := ∀ s t x y, s < 16 → t < 16 → σ s = some x → σ t = some y → mtX l x y = true → rkX l x < rkX l y → s < t
def Inv (l : List Rl) (σ : Sl) : Prop := (l.length ≤ 16 ∧ (∀ q ∈ l, vr q) ∧ dst l) ∧ Vld l σ ∧ Unq σ ∧ Ord l σ ∧ ∀ r p, r < l.length → p < rwR (rlN l r) → Prs σ (r, p)
theorem Inv.keys {l : List Rl} {σ : Sl} (I : Inv l σ) (k : Nat) : rAt σ (tS l σ k) = lsB l none k := by
  obtain ⟨⟨-, hv, hd⟩, V, -, O, P⟩ := I
  cases hq : tS l σ k with
  | none =>
    have hn := fup_none.mp hq
    refine (lsB_none.mpr fun i hi => ?_).symm
    refine Bool.eq_false_iff.mpr (fun hh => ?_)
    obtain ⟨p, p1, p2⟩ := has_fit (hv _ (rlN_mem hi)) hh
    obtain ⟨s, s1, s2⟩ := P i p hi p1
    have := hn s (by omega) (by omega)
    unfold fitS at this
    rw [s2] at this
    simp only [] at this
    rw [p2] at this
    cases this
  | some s =>
    obtain ⟨-, s1, s2, s3⟩ := fup_some.mp hq
    have s16 : s < 16 := by omega
    unfold fitS at s2
    cases hx : σ s with
    | none => rw [hx] at s2; cases s2
    | some x =>
      rw [hx] at s2
      simp only [] at s2
      obtain ⟨v1, v2⟩ := V s x s16 hx
      have hr : rAt σ (some s) = some x.1 := by unfold rAt; simp [hx]
      rw [hr]
      refine ((lsB_some hd).mpr ⟨v1, fit_has (hv _ (rlN_mem v1)) v2 s2, fun i hi hh => ?_⟩).symm
      by_cases g : (rlN l x.1).1 ≤ (rlN l i).1
      · exact g
      · obtain ⟨p, p1, p2⟩ := has_fit (hv _ (rlN_mem hi)) hh
        obtain ⟨t, t1, t2⟩ := P i p hi p1
        have hlt := O t s (i, p) x t1 s16 t2 hx (fit_meet p2 s2) (show (rlN l i).1 < (rlN l x.1).1 by omega)
        have := s3 t (by omega) hlt
        unfold fitS at this
        rw [t2] at this
        simp only [] at this
        rw [p2] at this
        cases this
def sm (f : Nat → Nat) (n : Nat) : Nat := itr (fun j a => a + f j) 0 n
theorem sm_s (f : Nat → Nat) (n : Nat) : sm f (n + 1) = sm f n + f n := rfl
theorem sm_add (f g : Nat → Nat) : ∀ n, sm (fun j => f j + g j) n = sm f n + sm g n
  | 0 => rfl
  | n + 1 => by rw [sm_s, sm_s, sm_s, sm_add f g n]; omega
theorem sm_0 : ∀ n, sm (fun _ => 0) n = 0
  | 0 => rfl
  | n + 1 => by rw [sm_s, sm_0 n]
theorem sm_congr {f g : Nat → Nat} {n : Nat} (h : ∀ j, j < n → f j = g j) : sm f n = sm g n := itr_congr (fun j x hj => by rw [h j hj])
theorem sm_swap (f : Nat → Nat → Nat) (b : Nat) : ∀ a, sm (fun i => sm (f i) b) a = sm (fun j => sm (fun i => f i j) a) b
  | 0 => (sm_0 b).symm
  | a + 1 => by
    rw [sm_s, sm_swap f b a, ← sm_add]
    exact sm_congr (fun j _ => rfl)
theorem sm_ct (p : Nat → Bool) (n : Nat) : sm (fun j => if p j = true then 1 else 0) n = ct p n := itr_ct n
theorem ct_one {p : Nat → Bool} {s : Nat} : ∀ n, s < n → p s = true → (∀ t, t < n → p t = true → t = s) → ct p n = 1 := by
  intro n
  induction n with
  | zero => intro h; omega
  | succ n ih =>
    intro h hp hu
    show ct p n + (if p n = true then 1 else 0) = 1
    by_cases g : s = n
    · subst g
      have : ct p s = 0 := by
        rw [fup_ct]
        refine fup_none.mpr (fun t _ ht => Bool.eq_false_iff.mpr (fun hh => ?_))
        have := hu t (by omega) hh
        omega
      rw [this, if_pos hp]
    · have hn : ¬ p n = true := fun hh => g (hu n (by omega) hh).symm
      rw [ih (by omega) hp (fun t ht => hu t (by omega)), if_neg hn]
theorem ct_lt : ∀ n w, w ≤ n → ct (fun p => decide (p < w)) n = w := by
  intro n
  induction n with
  | zero => intro w h; rw [show w = 0 by omega]; rfl
  | succ n ih =>
    intro w h
    show ct (fun p => decide (p < w)) n + (if decide (n < w) = true then 1 else 0) = w
    by_cases g : w ≤ n
    · rw [ih w g, decide_eq_false (by omega)]; rfl
    · have : w = n + 1 := by omega
      subst this
      rw [ct_congr (q := fun p => decide (p < n)) (fun j hj => decide_eq_decide.mpr (by omega)), ih n (Nat.le_refl _), decide_eq_true (by omega)]
      rfl
theorem Inv.rows {l : List Rl} {σ : Sl} (I : Inv l σ) : rws σ = allR l := by
  obtain ⟨⟨h16, hv, hd⟩, V, U, -, P⟩ := I
  have h1 : rws σ = sm (fun s => sm (fun r => sm (fun p => if decide (σ s = some (r, p)) = true then 1 else 0) 6) 16) 16 := by
    unfold rws
    rw [← sm_ct]
    refine sm_congr (fun s hs => ?_)
    cases hx : σ s with
    | none =>
      have : ∀ r, sm (fun p => if decide ((none : Option (Nat × Nat)) = some (r, p)) = true then 1 else 0) 6 = 0 := fun r => by
        rw [sm_congr (g := fun _ => 0) (fun p _ => by simp), sm_0]
      rw [sm_congr (g := fun _ => 0) (fun r _ => this r), sm_0]
      rfl
    | some x =>
      obtain ⟨v1, v2⟩ := V s x hs hx
      have h6 : rwR (rlN l x.1) ≤ 6 := rwF_le 6 _ _
      have e1 : ∀ r, sm (fun p => if decide (some x = some (r, p)) = true then 1 else 0) 6 = if decide (r = x.1) = true then 1 else 0 := by
        intro r
        by_cases g : r = x.1
        · rw [decide_eq_true g, sm_ct, ct_one (s := x.2) 6 (by omega) (decide_eq_true (by rw [g])) (fun t _ ht => by
            have := of_decide_eq_true ht
            cases this
            rfl)]
          rfl
        · rw [decide_eq_false g, sm_congr (g := fun _ => 0) (fun p _ => by
            rw [decide_eq_false (fun e => g (by cases e; rfl))]; rfl), sm_0]
          rfl
      rw [sm_congr (fun r _ => e1 r), sm_ct, ct_one (s := x.1) 16 (by omega) (decide_eq_true rfl) (fun t _ ht => of_decide_eq_true ht)]
      rfl
  have h2 : ∀ r p, sm (fun s => if decide (σ s = some (r, p)) = true then 1 else 0) 16 = if decide (r < l.length ∧ p < rwR (rlN l r)) = true then 1 else 0 := by
    intro r p
    rw [sm_ct]
    by_cases g : r < l.length ∧ p < rwR (rlN l r)
    · obtain ⟨s, s1, s2⟩ := P r p g.1 g.2
      rw [decide_eq_true g, ct_one (s := s) 16 s1 (decide_eq_true s2) (fun t t1 ht => U t s (r, p) t1 s1 (of_decide_eq_true ht) s2)]
      rfl
    · rw [decide_eq_false g]
      show _ = 0
      rw [fup_ct]
      refine fup_none.mpr (fun t _ ht => decide_eq_false (fun e => g (V t (r, p) (by omega) e)))
  rw [h1, sm_swap]
  rw [sm_congr (g := fun r => if decide (r < l.length) = true then rwR (rlN l r) else 0) (fun r hr => by
    rw [sm_swap, sm_congr (fun p _ => h2 r p)]
    by_cases g : r < l.length
    · rw [decide_eq_true g, if_pos rfl, sm_ct, ct_congr (q := fun p => decide (p < rwR (rlN l r))) (fun p _ => decide_eq_decide.mpr ⟨fun hh => hh.2, fun hh => ⟨g, hh⟩⟩), ct_lt 6 (rwR (rlN l r)) (rwF_le 6 _ _)]
    · rw [decide_eq_false g, sm_congr (g := fun _ => 0) (fun p _ => by rw [decide_eq_false (fun hh => g hh.1)]; rfl), sm_0]
      rfl)]
  have cut : ∀ n, l.length ≤ n → sm (fun r => if decide (r < l.length) = true then rwR (rlN l r) else 0) n = sm (fun r => rwR (rlN l r)) l.length := by
    intro n
    induction n with
    | zero => intro h; rw [show l.length = 0 by omega]; rfl
    | succ n ih =>
      intro h
      by_cases g : l.length = n + 1
      · rw [g]
        exact sm_congr (fun j hj => by rw [decide_eq_true hj, if_pos rfl])
      · rw [sm_s, ih (by omega), decide_eq_false (by omega)]
        rfl
  rw [cut 16 h16]
  rfl
theorem allR_ge {l : List Rl} (hv : ∀ q ∈ l, vr q) : l.length ≤ allR l := by
  have key : ∀ n, n ≤ l.length → n ≤ itr (fun j a => a + rwR (rlN l j)) 0 n := by
    intro n
    induction n with
    | zero => intro _; omega
    | succ n ih =>
      intro h
      have := ih (by omega)
      have := rwR_pos (hv _ (rlN_mem (show n < l.length by omega)))
      show n + 1 ≤ itr (fun j a => a + rwR (rlN l j)) 0 n + rwR (rlN l n)
      omega
  exact key l.length (Nat.le_refl _)
theorem Inv.len {l : List Rl} {σ : Sl} (I : Inv l σ) : l.length ≤ rws σ := by rw [I.rows]; exact allR_ge I.1.2.1
theorem Inv.all {l : List Rl} {σ : Sl} (I : Inv l σ) : allR l ≤ 16 := by rw [← I.rows]; exact ct_le _ _
