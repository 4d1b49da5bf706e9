/-! THE MODEL: what is asked of its table -/
theorem shr_k : ∀ k, k < 32 → ((nI k &&& 31).toBitVec.smod 32).toNat = k := by decide
theorem shrN {n k : Nat} (hn : n < 2 ^ 31) (hk : k < 32) : j_shr (nI n) (nI k) = nI (n / 2 ^ k) := pk_shrN hn _ k (shr_k k hk)
theorem shl1 {k : Nat} (hk : k < 31) : j_shl (nI 1) (nI k) = nI (2 ^ k) := by
  have := pk_shlN (n := 1) (nI k &&& 31) k (shr_k k (by omega)) (by rw [Nat.one_mul]; exact Nat.pow_lt_pow_right (by decide) (by omega))
  rw [Nat.one_mul] at this
  exact this
theorem and1 (n : Nat) : nI n &&& nI 1 = nI (n % 2) := by rw [nx_and, Nat.and_one_is_mod]
def onesN (n : Nat) : Nat := ct (fun k => decide (n / 2 ^ k % 2 = 1)) 16
theorem q_ones {d n : Nat} {h : XH} (hn : n < 2 ^ 31) : xc XP d 174 [.int (nI n)] h = some (some (.int (nI (onesN n))), h) := by
  rw [n_X8_ones]
  simp only [e_X8_ones_0, e_X8_ones_1, e_X8_ones_2, e_X8_ones_3]
  have key := loop_ct (fun k c => xe XP d 174 (4, [.int (nI n), .int (nI c), .int (nI k)], [], h)) (fun k => decide (n / 2 ^ k % 2 = 1)) 16 (by
    intro k c hk hc
    have h1 := shrN hn (show k < 32 by omega)
    rw [e_X8_ones_4]
    simp (disch := first | assumption | omega) only [e_X8_ones_5, e_X8_ones_6, e_X8_ones_7, e_X8_ones_8, e_X8_ones_9, e_X8_ones_10, e_X8_ones_11, e_X8_ones_12, e_X8_ones_13, e_X8_ones_14, e_X8_ones_15, e_X8_ones_16, nI_leI, if_f, h1, and1, nI_add]
    have h2 := Nat.mod_lt (n / 2 ^ k) (show 2 > 0 by decide)
    by_cases g : n / 2 ^ k % 2 = 1
    · simp [g]
    · rw [show n / 2 ^ k % 2 = 0 by omega]; simp) 16 (Nat.le_refl _)
  rw [key]
  simp (disch := first | assumption | omega) only [e_X8_ones_4, e_X8_ones_5, e_X8_ones_6, e_X8_ones_17, e_X8_ones_18, nI_leI, if_t, Nat.le_refl, if_true]
  rfl
theorem ones_4 : ∀ n, n < 16 → onesN n = pop4 n := by decide
section Md10R
variable {h : XH} {m : Nat} {cm ca lm ra nu nr mm nm : Int32} {f g : Nat → Int32} {l : List Rl} {σ : Sl} {d : Nat}
theorem q_emptySlots (M : MdO h m cm ca lm ra nu nr mm nm) (A : h[m + 1]? = some (ia 113 f)) (L : RwL f l) (R : RwS f l σ) : xc XP d 148 [.ref m] h = some (some (.int (nI (ct (emA σ) 16))), h) := by
  have l1 := L.1
  rw [n_X8_emptySlots]
  simp only [e_X8_emptySlots_0, e_X8_emptySlots_1, e_X8_emptySlots_2, e_X8_emptySlots_3]
  have key := loop_ct (fun s c => xe XP d 148 (4, [.ref m, .int (nI c), .int (nI s)], [], h)) (emA σ) 16 (by
    intro s c hs hc
    rw [e_X8_emptySlots_4]
    cases hx : σ s with
    | none =>
      have q1 := rs_none A R hs hx
      simp (disch := first | assumption | omega) only [e_X8_emptySlots_5, e_X8_emptySlots_6, e_X8_emptySlots_7, e_X8_emptySlots_8, e_X8_emptySlots_9, e_X8_emptySlots_10, e_X8_emptySlots_11, e_X8_emptySlots_12, e_X8_emptySlots_13, e_X8_emptySlots_14, e_X8_emptySlots_15, e_X8_emptySlots_16, e_X8_emptySlots_17, e_X8_emptySlots_18, e_X8_emptySlots_19, e_X8_emptySlots_20, e_X8_emptySlots_21, nI_leI, if_f, M.f0, Option.bind_some, nI_add, q1, m4_ge0, if_false, em_none hx, if_true]
    | some x =>
      obtain ⟨x1, x2, q1, q2⟩ := rs_some A R hs hx
      simp (disch := first | assumption | omega) only [e_X8_emptySlots_5, e_X8_emptySlots_6, e_X8_emptySlots_7, e_X8_emptySlots_8, e_X8_emptySlots_9, e_X8_emptySlots_10, e_X8_emptySlots_11, e_X8_emptySlots_12, e_X8_emptySlots_13, e_X8_emptySlots_14, e_X8_emptySlots_15, e_X8_emptySlots_16, e_X8_emptySlots_17, e_X8_emptySlots_18, e_X8_emptySlots_19, e_X8_emptySlots_20, e_X8_emptySlots_21, nI_leI, if_f, M.f0, Option.bind_some, nI_add, q1, nI_ge0, if_t, em_some hx, Bool.false_eq_true, if_false, if_true]) 16 (Nat.le_refl _)
  rw [key]
  simp (disch := first | assumption | omega) only [e_X8_emptySlots_4, e_X8_emptySlots_5, e_X8_emptySlots_6, e_X8_emptySlots_22, e_X8_emptySlots_23, nI_leI, if_t, Nat.le_refl, if_true]
theorem em_rws (σ : Sl) : ct (emA σ) 16 + rws σ = 16 := by
  have : ∀ n, ct (emA σ) n + ct (fun s => (σ s).isSome) n = n := by
    intro n
    induction n with
    | zero => rfl
    | succ n ih =>
      show ct (emA σ) n + (if emA σ n = true then 1 else 0) + (ct (fun s => (σ s).isSome) n + (if (σ n).isSome = true then 1 else 0)) = n + 1
      unfold emA at ih ⊢
      cases σ n <;> simp <;> omega
  exact this 16
theorem q_tableAnswer (M : MdO h m cm ca lm ra nu nr mm nm) (A : h[m + 1]? = some (ia 113 f)) (L : RwL f l) (R : RwS f l σ) (G : h[m + 4]? = some (ia 16 g)) (K : Msk g l σ) {k : Nat} : xc XP (d + 2) 166 [.ref m, .int (nI k)] h = some (some (.int (ansR l (rAt σ (tS l σ k)))), h) := by
  have c0 := M.k
  have l1 := L.1
  have qs := q_slotOf (d := d) M A L R G K (k := k)
  rw [n_X8_tableAnswer]
  cases ht : tS l σ k with
  | none =>
    rw [ht, oI_none] at qs
    simp (disch := first | assumption | omega) only [e_X8_tableAnswer_0, e_X8_tableAnswer_1, e_X8_tableAnswer_2, e_X8_tableAnswer_3, e_X8_tableAnswer_4, e_X8_tableAnswer_5, e_X8_tableAnswer_6, e_X8_tableAnswer_7, e_X8_tableAnswer_8, e_X8_tableAnswer_20, qs, xbk_i, not_true, if_false]
    rfl
  | some s =>
    have hs := tS_lt ht
    rw [ht, oI_some] at qs
    have hne : ¬ nI s = -4 := nI_n4 (by omega)
    have hfit := (fup_some.mp ht).2.2.1
    unfold fitS at hfit
    cases hx : σ s with
    | none => rw [hx] at hfit; cases hfit
    | some x =>
      obtain ⟨x1, x2, q1, q2⟩ := rs_some A R hs hx
      have ra := (L.2.2.2 _ x1).2.2.2.2
      have hr : rAt σ (some s) = some x.1 := by unfold rAt; simp [hx]
      simp (disch := first | assumption | omega) only [e_X8_tableAnswer_0, e_X8_tableAnswer_1, e_X8_tableAnswer_2, e_X8_tableAnswer_3, e_X8_tableAnswer_4, e_X8_tableAnswer_5, e_X8_tableAnswer_6, e_X8_tableAnswer_7, e_X8_tableAnswer_8, e_X8_tableAnswer_9, e_X8_tableAnswer_10, e_X8_tableAnswer_11, e_X8_tableAnswer_12, e_X8_tableAnswer_13, e_X8_tableAnswer_14, e_X8_tableAnswer_15, e_X8_tableAnswer_16, e_X8_tableAnswer_17, e_X8_tableAnswer_18, e_X8_tableAnswer_19, e_X8_tableAnswer_20, qs, xbk_i, hne, not_false_eq_true, if_true, M.f0, Option.bind_some, nI_add, q1, ra_ld A, ra, hr]
      rfl
end Md10R
