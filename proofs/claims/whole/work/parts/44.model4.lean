/-! THE MODEL: the list's answers -/
def hsB (a b c t : Nat) : Bool := decide ((t ^^^ hvN (a * 100 + b * 10 + c)) &&& hcN (a * 100 + b * 10 + c) = 0) == ((decide (a = 2) || decide (a = t / 4 % 2)) && ((decide (b = 2) || decide (b = t / 2 % 2)) && (decide (c = 2) || decide (c = t % 2))))
theorem hs_all : ∀ a, a < 3 → ∀ b, b < 3 → ∀ c, c < 3 → ∀ t, t < 8 → hsB a b c t = true := by decide
theorem hs_hd0 (a : Nat) (ha : a < 3) (b : Nat) (hb : b < 3) (c : Nat) (hc : c < 3) (t : Nat) (ht : t < 8) : (t ^^^ hvN (a * 100 + b * 10 + c)) &&& hcN (a * 100 + b * 10 + c) = 0 ↔ ((a = 2 ∨ a = t / 4 % 2) ∧ (b = 2 ∨ b = t / 2 % 2) ∧ (c = 2 ∨ c = t % 2)) := by
  have q := hs_all a ha b hb c hc t ht
  unfold hsB at q
  rw [beq_iff_eq, Bool.eq_iff_iff] at q
  simpa only [Bool.and_eq_true, Bool.or_eq_true, decide_eq_true_eq] using q
def dgK (x k : Nat) : Nat := if k = 0 then x / 100 else if k = 1 then x / 10 % 10 else x % 10
def dgB (x key k : Nat) : Bool := decide (dgK x k = 2) || decide (dgK x k = key / 2 ^ (6 - k) % 2)
theorem hasR_eq {q : Rl} (v : vr q) {k : Nat} (hk : k < 128) : hasR q k = (((decide (q.2.2.1 ≤ k % 16 ∧ k % 16 ≤ q.2.2.2.1) && dgB q.2.1 k 0) && dgB q.2.1 k 1) && dgB q.2.1 k 2) := by
  obtain ⟨v1, ⟨w1, w2, w3⟩, v3, v4, v5⟩ := v
  have h0 := hs_hd0 (q.2.1 / 100) (by omega) (q.2.1 / 10 % 10) (by omega) (q.2.1 % 10) (by omega) (k / 16) (by omega)
  rw [show q.2.1 / 100 * 100 + q.2.1 / 10 % 10 * 10 + q.2.1 % 10 = q.2.1 by omega] at h0
  rw [show k / 16 / 4 % 2 = k / 64 % 2 by omega, show k / 16 / 2 % 2 = k / 32 % 2 by omega] at h0
  rw [Bool.eq_iff_iff]
  unfold hasR dgB dgK
  simp only [Bool.and_eq_true, Bool.or_eq_true, decide_eq_true_eq, h0, if_true, show ¬ (1 : Nat) = 0 by decide, show ¬ (2 : Nat) = 0 by decide, show ¬ (2 : Nat) = 1 by decide, if_false, show (2 : Nat) ^ (6 - 0) = 64 by decide, show (2 : Nat) ^ (6 - 1) = 32 by decide, show (2 : Nat) ^ (6 - 2) = 16 by decide]
  constructor
  · rintro ⟨a1, a2, a3, a4, a5⟩; exact ⟨⟨⟨⟨a1, a2⟩, a3⟩, a4⟩, a5⟩
  · rintro ⟨⟨⟨⟨a1, a2⟩, a3⟩, a4⟩, a5⟩; exact ⟨a1, a2, a3, a4, a5⟩
theorem itr_and {p : Nat → Bool} : ∀ n, itr (fun k b => b && p k) true n = (fup (fun k => !p k) 0 n).isNone := by
  intro n
  have h1 : ∀ n, itr (fun k b => b && p k) true n = true ↔ ∀ j, j < n → p j = true := by
    intro n
    induction n with
    | zero => exact ⟨fun _ j hj => absurd hj (by omega), fun _ => rfl⟩
    | succ n ih =>
      show (itr (fun k b => b && p k) true n && p n) = true ↔ _
      rw [Bool.and_eq_true, ih]
      constructor
      · rintro ⟨a, b⟩ j hj
        by_cases g : j = n
        · rw [g]; exact b
        · exact a j (by omega)
      · intro a
        exact ⟨fun j hj => a j (by omega), a n (by omega)⟩
  rw [Bool.eq_iff_iff, h1, Option.isNone_iff_eq_none, fup_none]
  constructor
  · intro a j _ hj; rw [a j (by omega)]; rfl
  · intro a j hj; have := a j (by omega) (by omega); simpa using this
section Row4R
variable {h : XH} {a : Nat} {f : Nat → Int32} {l : List Rl} {d : Nat}
theorem q_hasM (A : h[a]? = some (ia 113 f)) (L : RwL f l) {r k : Nat} (hr : r < l.length) (hk : k < 128) : xc XP (d + 1) 123 [.ref a, .int (nI r), .int (nI k)] h = some (some (.int (bI (hasR (rlN l r) k))), h) := by
  obtain ⟨l1, l2, l3, l4⟩ := L
  obtain ⟨r1, r2, r3, r4, r5⟩ := l4 r hr
  have v := l2 _ (rlN_mem hr)
  have v2 := v.2.1.1
  have v4 := v.2.2.2.1
  have v3 := v.2.2.1
  have h10 : (rlN l r).2.1 / 10 < 2 ^ 31 := by omega
  have hin : decide (nI (rlN l r).2.2.1 ≤ nI (k % 16) ∧ nI (k % 16) ≤ nI (rlN l r).2.2.2.1) = decide ((rlN l r).2.2.1 ≤ k % 16 ∧ k % 16 ≤ (rlN l r).2.2.2.1) := by
    apply decide_eq_decide.mpr
    rw [nI_leI (by omega) (by omega), nI_leI (by omega) (by omega)]
  have step : ∀ (i : Nat) (b : Bool) (w : Value), i < 3 → xe XP (d + 1) 123 (23, [.ref a, .int (nI r), .int (nI k), .int (nI (rlN l r).2.1), .int (bI b), .int (nI i), w], [], h) = xe XP (d + 1) 123 (23, [.ref a, .int (nI r), .int (nI k), .int (nI (rlN l r).2.1), .int (bI (b && dgB (rlN l r).2.1 k i)), .int (nI (i + 1)), .int (nI (dgK (rlN l r).2.1 i))], [], h) := by
    intro i b w hi
    have sr : ∀ e, e < 3 → ∀ x, x < 128 → j_shr (nI x) (nI (6 - e)) = nI (x / 2 ^ (6 - e)) := by decide
    have sr' := sr i hi k hk
    have an : ∀ x, nI x &&& nI 1 = nI (x % 2) := fun x => by rw [nx_and, Nat.and_one_is_mod]
    have hd10 : dgK (rlN l r).2.1 i < 2 ^ 31 := by unfold dgK; split; omega; split <;> omega
    have hm2 : k / 2 ^ (6 - i) % 2 < 2 ^ 31 := by omega
    have fin : ∀ w, xe XP (d + 1) 123 (45, [.ref a, .int (nI r), .int (nI k), .int (nI (rlN l r).2.1), .int (bI b), .int (nI i), w], [], h) = xe XP (d + 1) 123 (45, [.ref a, .int (nI r), .int (nI k), .int (nI (rlN l r).2.1), .int (bI b), .int (nI i), w], [], h) := fun _ => rfl
    rw [e_X8_has_23]
    unfold dgB
    have tail : xe XP (d + 1) 123 (45, [.ref a, .int (nI r), .int (nI k), .int (nI (rlN l r).2.1), .int (bI b), .int (nI i), .int (nI (dgK (rlN l r).2.1 i))], [], h) = xe XP (d + 1) 123 (23, [.ref a, .int (nI r), .int (nI k), .int (nI (rlN l r).2.1), .int (bI (b && (decide (dgK (rlN l r).2.1 i = 2) || decide (dgK (rlN l r).2.1 i = k / 2 ^ (6 - i) % 2)))), .int (nI (i + 1)), .int (nI (dgK (rlN l r).2.1 i))], [], h) := by
      simp (disch := first | assumption | omega) only [e_X8_has_45, e_X8_has_46, e_X8_has_47, e_X8_has_48, e_X8_has_49, e_X8_has_50, e_X8_has_51, e_X8_has_52, e_X8_has_53, e_X8_has_54, e_X8_has_55, e_X8_has_56, e_X8_has_57, e_X8_has_58, e_X8_has_59, e_X8_has_60, e_X8_has_61, e_X8_has_62, e_X8_has_63, e_X8_has_64, bI_0, nI_eq, pk_sub, sr', an, nI_add]
      cases b
      · rfl
      · by_cases g1 : dgK (rlN l r).2.1 i = 2
        · simp [g1, bI]
        · by_cases g2 : dgK (rlN l r).2.1 i = k / 2 ^ (6 - i) % 2
          · have g1' : ¬ k / 2 ^ (6 - i) % 2 = 2 := by omega
            simp [g2, g1', bI]
          · simp [g1, g2, bI]
    rw [← tail]
    rcases (show i = 0 ∨ i = 1 ∨ i = 2 by omega) with e | e | e <;> subst e
    · simp (disch := first | assumption | omega) only [e_X8_has_24, e_X8_has_25, e_X8_has_26, e_X8_has_27, e_X8_has_28, e_X8_has_29, e_X8_has_30, e_X8_has_31, e_X8_has_32, e_X8_has_33, e_X8_has_34, e_X8_has_35, e_X8_has_36, e_X8_has_37, e_X8_has_38, e_X8_has_39, e_X8_has_40, e_X8_has_41, e_X8_has_42, e_X8_has_43, e_X8_has_44, nI_leI, nI_eq, if_f, if_t, jdiv, jrem, not_true, if_false, if_true, Nat.reduceLeDiff, dgK]
    · simp (disch := first | assumption | omega) only [e_X8_has_24, e_X8_has_25, e_X8_has_26, e_X8_has_27, e_X8_has_28, e_X8_has_29, e_X8_has_30, e_X8_has_31, e_X8_has_32, e_X8_has_33, e_X8_has_34, e_X8_has_35, e_X8_has_36, e_X8_has_37, e_X8_has_38, e_X8_has_39, e_X8_has_40, e_X8_has_41, e_X8_has_42, e_X8_has_43, e_X8_has_44, nI_leI, nI_eq, if_f, if_t, jdiv, jrem, not_true, if_false, if_true, Nat.reduceLeDiff, dgK]
    · simp (disch := first | assumption | omega) only [e_X8_has_24, e_X8_has_25, e_X8_has_26, e_X8_has_27, e_X8_has_28, e_X8_has_29, e_X8_has_30, e_X8_has_31, e_X8_has_32, e_X8_has_33, e_X8_has_34, e_X8_has_35, e_X8_has_36, e_X8_has_37, e_X8_has_38, e_X8_has_39, e_X8_has_40, e_X8_has_41, e_X8_has_42, e_X8_has_43, e_X8_has_44, nI_leI, nI_eq, if_f, if_t, jdiv, jrem, not_true, if_false, if_true, Nat.reduceLeDiff, dgK]
  rw [hasR_eq v hk, n_X8_has]
  simp (disch := first | assumption | omega) only [e_X8_has_0, e_X8_has_1, e_X8_has_2, e_X8_has_3, e_X8_has_4, e_X8_has_5, e_X8_has_6, e_X8_has_7, e_X8_has_8, e_X8_has_9, e_X8_has_10, e_X8_has_11, e_X8_has_12, e_X8_has_13, e_X8_has_14, e_X8_has_15, e_X8_has_16, e_X8_has_17, e_X8_has_18, e_X8_has_19, e_X8_has_20, e_X8_has_21, e_X8_has_22, nI_add, ra_ld A, Option.bind_some, r2, r3, r4, jrem, q_in, hin, xbk_i]
  rw [step 0 _ _ (by omega), step 1 _ _ (by omega), step 2 _ _ (by omega)]
  simp (disch := first | assumption | omega) only [e_X8_has_23, e_X8_has_24, e_X8_has_25, e_X8_has_65, e_X8_has_66, nI_leI, if_t, bI_rk, if_true, Nat.le_refl]
theorem q_ofRank (A : h[a]? = some (ia 113 f)) (L : RwL f l) {k : Nat} (hk : k < 2 ^ 31) : xc XP d 134 [.ref a, .int (nI k)] h = some (some (.int (oI (nofR l k))), h) := by
  obtain ⟨l1, l2, l3, l4⟩ := L
  rw [n_X8_ofRank]
  simp only [e_X8_ofRank_0, e_X8_ofRank_1]
  have key := loop_fup (fun j => xe XP d 134 (2, [.ref a, .int (nI k), .int (nI j)], [], h)) (fun j => decide ((rlN l j).1 = k)) (fun s => some (some (.int (nI s)), h)) l.length (by
    intro j hj
    have v := (l2 _ (rlN_mem hj)).1
    rw [e_X8_ofRank_2]
    simp (disch := first | assumption | omega) only [e_X8_ofRank_3, e_X8_ofRank_4, e_X8_ofRank_5, e_X8_ofRank_6, e_X8_ofRank_7, e_X8_ofRank_8, e_X8_ofRank_9, e_X8_ofRank_10, e_X8_ofRank_11, e_X8_ofRank_12, e_X8_ofRank_13, e_X8_ofRank_14, e_X8_ofRank_15, e_X8_ofRank_16, e_X8_ofRank_17, ra_ld A, Option.bind_some, l3, nI_leI, if_f, nI_add, (l4 j hj).1, nI_eq]
    by_cases g : (rlN l j).1 = k <;> simp [g]) l.length 0 (by omega)
  rw [key]
  unfold nofR
  cases fup (fun j => decide ((rlN l j).1 = k)) 0 l.length with
  | some s => rfl
  | none =>
    simp (disch := first | assumption | omega) only [e_X8_ofRank_2, e_X8_ofRank_3, e_X8_ofRank_4, e_X8_ofRank_5, e_X8_ofRank_6, e_X8_ofRank_18, e_X8_ofRank_19, ra_ld A, Option.bind_some, l3, nI_leI, if_t, Nat.le_refl, if_true]
    rfl
end Row4R
