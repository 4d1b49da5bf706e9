/-! THE MODEL: the signs of a row, its mask -/
theorem sg_cb : ∀ c, c < 128 → ∀ e, e < 7 → (c &&& 2 ^ e = 0 ∨ c &&& 2 ^ e = 2 ^ e) := by decide
theorem sg_c4 : ∀ a, a < 8 → ∀ y, y < 16 → ∀ e, e < 3 → ((a * 16 + y) &&& (16 * 2 ^ e) = 0 ↔ a &&& 2 ^ e = 0) := by decide
theorem sg_c1 : ∀ a, a < 8 → ∀ z, z < 5 → ∀ e, e < 4 → ((a * 16 + (16 - 2 ^ z)) &&& 2 ^ e = 0 ↔ 2 ^ e < 2 ^ z) := by decide
theorem sg_w1 : ∀ a, a < 8 → ∀ u, u < 16 → ∀ e, e < 4 → ((a * 16 + u) &&& 2 ^ e = 0 ↔ u / 2 ^ e % 2 = 0) := by decide
theorem sg_hd0 : ∀ a, a < 3 → ∀ b, b < 3 → ∀ c, c < 3 → ((if hcN (a * 100 + b * 10 + c) &&& 4 = 0 then 2 else if hvN (a * 100 + b * 10 + c) &&& 4 = 0 then 0 else 1) = a ∧ (if hcN (a * 100 + b * 10 + c) &&& 2 = 0 then 2 else if hvN (a * 100 + b * 10 + c) &&& 2 = 0 then 0 else 1) = b ∧ (if hcN (a * 100 + b * 10 + c) &&& 1 = 0 then 2 else if hvN (a * 100 + b * 10 + c) &&& 1 = 0 then 0 else 1) = c) := by decide
theorem sg_hd (x : Nat) (h1 : x < 223) (h2 : x / 10 % 10 ≤ 2) (h3 : x % 10 ≤ 2) : (if hcN x &&& 4 = 0 then 2 else if hvN x &&& 4 = 0 then 0 else 1) = x / 100 ∧ (if hcN x &&& 2 = 0 then 2 else if hvN x &&& 2 = 0 then 0 else 1) = x / 10 % 10 ∧ (if hcN x &&& 1 = 0 then 2 else if hvN x &&& 1 = 0 then 0 else 1) = x % 10 := by
  have q := sg_hd0 (x / 100) (by omega) (x / 10 % 10) (by omega) (x % 10) (by omega)
  rw [show x / 100 * 100 + x / 10 % 10 * 10 + x % 10 = x by omega] at q
  exact q
theorem sg1_w {c w e : Nat} (hc : c < 128) (he : e < 7) : sg1 c (w &&& c) (2 ^ e) = if c &&& 2 ^ e = 0 then 2 else if w &&& 2 ^ e = 0 then 0 else 1 := by
  unfold sg1
  by_cases h0 : c &&& 2 ^ e = 0
  · rw [if_pos h0, if_pos h0]
  · have h1 : c &&& 2 ^ e = 2 ^ e := by
      rcases sg_cb c hc e he with q | q
      · exact absurd q h0
      · exact q
    rw [if_neg h0, if_neg h0, Nat.and_assoc, h1]
theorem psz_pow (f t : Nat) : ∃ z, z < 5 ∧ psz f t = 2 ^ z := by
  unfold psz
  split
  · exact ⟨4, by decide, by decide⟩
  · split
    · exact ⟨3, by decide, by decide⟩
    · split
      · exact ⟨2, by decide, by decide⟩
      · split
        · exact ⟨1, by decide, by decide⟩
        · exact ⟨0, by decide, by decide⟩
/-- the sign of a place, the highest first -/
def sgK (q : Rl) (u k : Nat) : Nat := if k = 0 then q.2.1 / 100 else if k = 1 then q.2.1 / 10 % 10 else if k = 2 then q.2.1 % 10 else if 2 ^ (6 - k) < psz u q.2.2.2.1 then 2 else u / 2 ^ (6 - k) % 2
theorem sgK_eq {q : Rl} (v : vr q) {u k : Nat} (hu : u < 16) (hk : k < 7) : sgK q u k = sg1 (cwT q u) (vwT q u) (2 ^ (6 - k)) := by
  have v2 := v.2.1
  obtain ⟨z, hz, ez⟩ := psz_pow u q.2.2.2.1
  have hc8 := hcN_le q.2.1
  have hv8 : hvN q.2.1 ≤ 7 := hbN_le _ _
  have hs := sg_hd q.2.1 (by have := v2.1; omega) v2.2.1 v2.2.2
  have hc : cwT q u = hcN q.2.1 * 16 + (16 - 2 ^ z) := by unfold cwT; rw [ez]
  have hy : 16 - 2 ^ z < 16 := by have := Nat.two_pow_pos z; omega
  unfold vwT
  rw [sg1_w (cwT_lt q u) (by omega), hc]
  unfold sgK
  by_cases k0 : k = 0
  · subst k0
    rw [if_pos rfl, ← hs.1]
    have e1 := sg_c4 (hcN q.2.1) (by omega) (16 - 2 ^ z) hy 2 (by decide)
    have e2 := sg_c4 (hvN q.2.1) (by omega) u hu 2 (by decide)
    simp only [show 16 * 2 ^ 2 = 2 ^ (6 - 0) by decide, show (2 : Nat) ^ 2 = 4 by decide] at e1 e2
    simp only [e1, e2]
  · rw [if_neg k0]
    by_cases k1 : k = 1
    · subst k1
      rw [if_pos rfl, ← hs.2.1]
      have e1 := sg_c4 (hcN q.2.1) (by omega) (16 - 2 ^ z) hy 1 (by decide)
      have e2 := sg_c4 (hvN q.2.1) (by omega) u hu 1 (by decide)
      simp only [show 16 * 2 ^ 1 = 2 ^ (6 - 1) by decide, show (2 : Nat) ^ 1 = 2 by decide] at e1 e2
      simp only [e1, e2]
    · rw [if_neg k1]
      by_cases k2 : k = 2
      · subst k2
        rw [if_pos rfl, ← hs.2.2]
        have e1 := sg_c4 (hcN q.2.1) (by omega) (16 - 2 ^ z) hy 0 (by decide)
        have e2 := sg_c4 (hvN q.2.1) (by omega) u hu 0 (by decide)
        simp only [show 16 * 2 ^ 0 = 2 ^ (6 - 2) by decide, show (2 : Nat) ^ 0 = 1 by decide] at e1 e2
        simp only [e1, e2]
      · rw [if_neg k2, ez]
        have e1 := sg_c1 (hcN q.2.1) (by omega) z hz (6 - k) (by omega)
        have e2 := sg_w1 (hvN q.2.1) (by omega) u hu (6 - k) (by omega)
        simp only [e1, e2]
        by_cases g : 2 ^ (6 - k) < 2 ^ z
        · rw [if_pos g, if_pos g]
        · rw [if_neg g, if_neg g]
          have := Nat.mod_lt (u / 2 ^ (6 - k)) (show 2 > 0 by decide)
          split <;> omega
section Row2R
variable {h : XH} {a : Nat} {f : Nat → Int32} {l : List Rl} {d : Nat}
theorem q_signOf (A : h[a]? = some (ia 113 f)) (L : RwL f l) {r p k : Nat} (hr : r < l.length) (hp : p < rwR (rlN l r)) (hk : k < 7) : xc XP (d + 2) 118 [.ref a, .int (nI r), .int (nI p), .int (nI k)] h = some (some (.int (nI (sgK (rlN l r) (tlN (rlN l r) p) k))), h) := by
  have q0 := q_pieceOf (d := d) A L hr hp
  obtain ⟨l1, l2, l3, l4⟩ := L
  obtain ⟨r1, r2, r3, r4, r5⟩ := l4 r hr
  have v := l2 _ (rlN_mem hr)
  have v4 := v.2.2.2.1
  have hh : (rlN l r).2.1 ≤ 222 := v.2.1.1
  have ht := tl_le v hp
  have hps := psz_pos (tlN (rlN l r) p) (rlN l r).2.2.2.1
  have h10 : (rlN l r).2.1 / 10 < 2 ^ 31 := by omega
  generalize hu : tlN (rlN l r) p = u at *
  generalize hz : psz u (rlN l r).2.2.2.1 = z at *
  have hu16 : u < 16 := by omega
  have d16 : (u + 16 * z) / 16 = z := by omega
  have m16 : (u + 16 * z) % 16 = u := by omega
  rw [n_X8_signOf]
  unfold sgK
  rw [hz]
  by_cases k3 : k < 3
  · rcases (show k = 0 ∨ k = 1 ∨ k = 2 by omega) with e | e | e <;> subst e
    · simp (disch := first | assumption | omega) only [e_X8_signOf_0, e_X8_signOf_1, e_X8_signOf_2, e_X8_signOf_3, e_X8_signOf_4, e_X8_signOf_5, e_X8_signOf_6, e_X8_signOf_7, e_X8_signOf_8, e_X8_signOf_9, e_X8_signOf_10, e_X8_signOf_11, e_X8_signOf_12, e_X8_signOf_13, e_X8_signOf_14, e_X8_signOf_15, e_X8_signOf_16, e_X8_signOf_17, e_X8_signOf_18, e_X8_signOf_19, e_X8_signOf_20, e_X8_signOf_21, e_X8_signOf_22, e_X8_signOf_23, e_X8_signOf_24, e_X8_signOf_25, e_X8_signOf_26, e_X8_signOf_27, e_X8_signOf_28, e_X8_signOf_29, e_X8_signOf_30, e_X8_signOf_31, e_X8_signOf_32, e_X8_signOf_33, nI_leI, nI_eq, if_f, if_t, nI_add, ra_ld A, Option.bind_some, r2, jdiv, jrem, not_true, if_false, if_true, Nat.reduceLeDiff]
    · simp (disch := first | assumption | omega) only [e_X8_signOf_0, e_X8_signOf_1, e_X8_signOf_2, e_X8_signOf_3, e_X8_signOf_4, e_X8_signOf_5, e_X8_signOf_6, e_X8_signOf_7, e_X8_signOf_8, e_X8_signOf_9, e_X8_signOf_10, e_X8_signOf_11, e_X8_signOf_12, e_X8_signOf_13, e_X8_signOf_14, e_X8_signOf_15, e_X8_signOf_16, e_X8_signOf_17, e_X8_signOf_18, e_X8_signOf_19, e_X8_signOf_20, e_X8_signOf_21, e_X8_signOf_22, e_X8_signOf_23, e_X8_signOf_24, e_X8_signOf_25, e_X8_signOf_26, e_X8_signOf_27, e_X8_signOf_28, e_X8_signOf_29, e_X8_signOf_30, e_X8_signOf_31, e_X8_signOf_32, e_X8_signOf_33, nI_leI, nI_eq, if_f, if_t, nI_add, ra_ld A, Option.bind_some, r2, jdiv, jrem, not_true, if_false, if_true, Nat.reduceLeDiff]
    · simp (disch := first | assumption | omega) only [e_X8_signOf_0, e_X8_signOf_1, e_X8_signOf_2, e_X8_signOf_3, e_X8_signOf_4, e_X8_signOf_5, e_X8_signOf_6, e_X8_signOf_7, e_X8_signOf_8, e_X8_signOf_9, e_X8_signOf_10, e_X8_signOf_11, e_X8_signOf_12, e_X8_signOf_13, e_X8_signOf_14, e_X8_signOf_15, e_X8_signOf_16, e_X8_signOf_17, e_X8_signOf_18, e_X8_signOf_19, e_X8_signOf_20, e_X8_signOf_21, e_X8_signOf_22, e_X8_signOf_23, e_X8_signOf_24, e_X8_signOf_25, e_X8_signOf_26, e_X8_signOf_27, e_X8_signOf_28, e_X8_signOf_29, e_X8_signOf_30, e_X8_signOf_31, e_X8_signOf_32, e_X8_signOf_33, nI_leI, nI_eq, if_f, if_t, nI_add, ra_ld A, Option.bind_some, r2, jdiv, jrem, not_true, if_false, if_true, Nat.reduceLeDiff]
  · rw [if_neg (by omega), if_neg (by omega), if_neg (by omega)]
    have sh : ∀ e, e < 4 → j_shl (nI 1) (nI e) = nI (2 ^ e) := by decide
    have sr : ∀ e, e < 4 → ∀ x, x < 16 → j_shr (nI x) (nI e) = nI (x / 2 ^ e) := by decide
    have an : ∀ x, x < 16 → nI x &&& nI 1 = nI (x % 2) := by decide
    have hx16 : u / 2 ^ (6 - k) < 16 := Nat.lt_of_le_of_lt (Nat.div_le_self _ _) hu16
    have hpw : 2 ^ (6 - k) ≤ 2 ^ 3 := Nat.pow_le_pow_right (by decide) (by omega)
    have hpw2 : 2 ^ (6 - k) < 2 ^ 31 := Nat.lt_of_le_of_lt hpw (by decide)
    have sh' := sh (6 - k) (by omega)
    have sr' := sr (6 - k) (by omega) u hu16
    have an' := an _ hx16
    simp (disch := first | assumption | omega) only [e_X8_signOf_0, e_X8_signOf_1, e_X8_signOf_2, e_X8_signOf_34, e_X8_signOf_35, e_X8_signOf_36, e_X8_signOf_37, e_X8_signOf_38, e_X8_signOf_39, e_X8_signOf_40, e_X8_signOf_41, e_X8_signOf_42, e_X8_signOf_43, e_X8_signOf_44, e_X8_signOf_45, e_X8_signOf_46, e_X8_signOf_47, e_X8_signOf_48, e_X8_signOf_49, e_X8_signOf_50, e_X8_signOf_51, e_X8_signOf_52, e_X8_signOf_53, e_X8_signOf_54, e_X8_signOf_55, e_X8_signOf_56, e_X8_signOf_57, e_X8_signOf_58, e_X8_signOf_59, nI_leI, if_t, q0, xbk_i, pk_sub, jdiv, jrem, d16, m16, sh', sr', an']
    by_cases g : 2 ^ (6 - k) < z
    · rw [if_neg (by omega), if_pos g]
    · rw [if_pos (by omega), if_neg g]
end Row2R
