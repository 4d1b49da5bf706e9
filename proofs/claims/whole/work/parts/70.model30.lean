/-! THE MODEL: a rule goes -/
def dlI (r : Nat) (x : Int32) : Int32 := if x = nI r then -4 else if x ≤ nI r then x else x - nI 1
section Md24R
variable {h : XH} {m : Nat} {S : CS} {d : Nat} {cm ca lm ra nu nr mm nm : Int32} {l : List Rl} {σ : Sl}
theorem goes_1 {f : Nat → Int32} {r : Nat} : ∀ (n k : Nat) (h : XH) (f' : Nat → Int32) (w3 : Value), k + n = 16 → MdO h m cm ca lm ra nu nr mm nm → h[m + 1]? = some (ia 113 f') →
    (∀ i, i < 81 → f' i = f i) → (∀ s, s < 16 → f' (81 + s) = (if s < k then dlI r (f (81 + s)) else f (81 + s)) ∧ f' (97 + s) = (if s < k ∧ f (81 + s) = nI r then nI 0 else f (97 + s))) →
    ∃ h'' f'' w3', xe XP d 155 (2, [.ref m, .int (nI r), .int (nI k), w3], [], h) = xe XP d 155 (50, [.ref m, .int (nI r), .int (nI 16), w3'], [], h'') ∧ h''[m + 1]? = some (ia 113 f'') ∧ (∀ i, i < 81 → f'' i = f i) ∧ (∀ s, s < 16 → f'' (81 + s) = dlI r (f (81 + s)) ∧ f'' (97 + s) = (if f (81 + s) = nI r then nI 0 else f (97 + s))) ∧ Same h h'' (m + 1) (m + 2) := by
  intro n
  induction n with
  | zero =>
    intro k h f' w3 hk M A p1 p2
    have hk : k = 16 := by omega
    subst hk
    refine ⟨h, f', w3, ?_, A, p1, fun s hs => ?_, Same.refl _ _ _⟩
    · simp (disch := first | assumption | omega) only [e_X8_goes_2, e_X8_goes_3, e_X8_goes_4, nI_leI, if_t]
    · have := p2 s hs
      rw [if_pos hs] at this
      refine ⟨this.1, ?_⟩
      rw [this.2]
      by_cases q : f (81 + s) = nI r
      · rw [if_pos ⟨hs, q⟩, if_pos q]
      · rw [if_neg (fun hh => q hh.2), if_neg q]
  | succ n ih =>
    intro k h f' w3 hk M A p1 p2
    have hk16 : k < 16 := by omega
    have pk := p2 k hk16
    rw [if_neg (by omega), if_neg (by omega)] at pk
    have l1 := ra_ld A (81 + k) (by omega)
    rw [pk.1] at l1
    have l2 := ra_ld A (97 + k) (by omega)
    rw [pk.2] at l2
    obtain ⟨h1, e1, A1, s1⟩ := ia_w A (by decide) (show 97 + k < 113 by omega) (if f (81 + k) = nI r then nI 0 else f (97 + k))
    have M1 : MdO h1 m cm ca lm ra nu nr mm nm := by unfold MdO; rw [s1.2 _ (by omega)]; exact M
    obtain ⟨h2, e2, A2, s2⟩ := ia_w A1 (by decide) (show 81 + k < 113 by omega) (dlI r (f (81 + k)))
    have M2 : MdO h2 m cm ca lm ra nu nr mm nm := by unfold MdO; rw [s2.2 _ (by omega)]; exact M1
    obtain ⟨h'', f'', w3', e3, A3, p3, p4, s3⟩ := ih (k + 1) h2 _ (.int (f (81 + k))) (by omega) M2 A2 (fun i hi => by rw [upd_n (by omega), upd_n (by omega)]; exact p1 i hi) (fun s hs => by
      by_cases q : s = k
      · subst q
        rw [upd_s, upd_n (by omega), upd_s, if_pos (by omega)]
        refine ⟨rfl, ?_⟩
        by_cases q2 : f (81 + s) = nI r
        · rw [if_pos q2, if_pos ⟨by omega, q2⟩]
        · rw [if_neg q2, if_neg (fun hh => q2 hh.2)]
      · rw [upd_n (by omega), upd_n (by omega), upd_n (by omega), upd_n (by omega)]
        obtain ⟨a1, a2⟩ := p2 s hs
        rw [a1, a2]
        refine ⟨?_, ?_⟩
        · by_cases q3 : s < k
          · rw [if_pos q3, if_pos (by omega)]
          · rw [if_neg q3, if_neg (by omega)]
        · by_cases q3 : s < k ∧ f (81 + s) = nI r
          · rw [if_pos q3, if_pos ⟨by omega, q3.2⟩]
          · rw [if_neg q3, if_neg (fun hh => q3 ⟨by omega, hh.2⟩)])
    refine ⟨h'', f'', w3', ?_, A3, p3, p4, (s1.trans s2).trans s3⟩
    rw [← e3, e_X8_goes_2]
    by_cases q : f (81 + k) = nI r
    · rw [if_pos q] at e1
      have ed : dlI r (f (81 + k)) = -4 := by unfold dlI; rw [if_pos q]
      rw [ed] at e2
      rw [q] at l1
      rw [q]
      simp (disch := first | assumption | omega) only [e_X8_goes_3, e_X8_goes_4, e_X8_goes_5, e_X8_goes_6, e_X8_goes_7, e_X8_goes_8, e_X8_goes_9, e_X8_goes_10, e_X8_goes_11, e_X8_goes_12, e_X8_goes_13, e_X8_goes_14, e_X8_goes_15, e_X8_goes_16, e_X8_goes_17, e_X8_goes_18, e_X8_goes_19, e_X8_goes_20, e_X8_goes_21, e_X8_goes_22, e_X8_goes_23, e_X8_goes_24, e_X8_goes_25, e_X8_goes_26, e_X8_goes_27, e_X8_goes_28, e_X8_goes_29, e_X8_goes_30, e_X8_goes_31, e_X8_goes_32, e_X8_goes_33, e_X8_goes_34, e_X8_goes_35, e_X8_goes_36, e_X8_goes_37, e_X8_goes_38, e_X8_goes_39, e_X8_goes_40, e_X8_goes_41, e_X8_goes_42, e_X8_goes_43, e_X8_goes_44, e_X8_goes_45, e_X8_goes_46, e_X8_goes_47, e_X8_goes_48, e_X8_goes_49, nI_leI, if_f, M.f0, M1.f0, Option.bind_some, nI_add, l1, not_true, if_false, e1, e2]
    · rw [if_neg q] at e1
      by_cases q2 : f (81 + k) ≤ nI r
      · have ed : dlI r (f (81 + k)) = f (81 + k) := by unfold dlI; rw [if_neg q, if_pos q2]
        rw [ed] at e2
        simp (disch := first | assumption | omega) only [e_X8_goes_3, e_X8_goes_4, e_X8_goes_5, e_X8_goes_6, e_X8_goes_7, e_X8_goes_8, e_X8_goes_9, e_X8_goes_10, e_X8_goes_11, e_X8_goes_12, e_X8_goes_13, e_X8_goes_14, e_X8_goes_15, e_X8_goes_16, e_X8_goes_17, e_X8_goes_18, e_X8_goes_19, e_X8_goes_20, e_X8_goes_21, e_X8_goes_22, e_X8_goes_23, e_X8_goes_24, e_X8_goes_25, e_X8_goes_26, e_X8_goes_27, e_X8_goes_28, e_X8_goes_29, e_X8_goes_30, e_X8_goes_31, e_X8_goes_32, e_X8_goes_33, e_X8_goes_34, e_X8_goes_35, e_X8_goes_36, e_X8_goes_37, e_X8_goes_38, e_X8_goes_39, e_X8_goes_40, e_X8_goes_41, e_X8_goes_42, e_X8_goes_43, e_X8_goes_44, e_X8_goes_45, e_X8_goes_46, e_X8_goes_47, e_X8_goes_48, e_X8_goes_49, nI_leI, if_f, M.f0, M1.f0, Option.bind_some, nI_add, l1, l2, q, q2, not_false_eq_true, if_true, e1, e2]
      · have ed : dlI r (f (81 + k)) = f (81 + k) - nI 1 := by unfold dlI; rw [if_neg q, if_neg q2]
        rw [ed] at e2
        simp (disch := first | assumption | omega) only [e_X8_goes_3, e_X8_goes_4, e_X8_goes_5, e_X8_goes_6, e_X8_goes_7, e_X8_goes_8, e_X8_goes_9, e_X8_goes_10, e_X8_goes_11, e_X8_goes_12, e_X8_goes_13, e_X8_goes_14, e_X8_goes_15, e_X8_goes_16, e_X8_goes_17, e_X8_goes_18, e_X8_goes_19, e_X8_goes_20, e_X8_goes_21, e_X8_goes_22, e_X8_goes_23, e_X8_goes_24, e_X8_goes_25, e_X8_goes_26, e_X8_goes_27, e_X8_goes_28, e_X8_goes_29, e_X8_goes_30, e_X8_goes_31, e_X8_goes_32, e_X8_goes_33, e_X8_goes_34, e_X8_goes_35, e_X8_goes_36, e_X8_goes_37, e_X8_goes_38, e_X8_goes_39, e_X8_goes_40, e_X8_goes_41, e_X8_goes_42, e_X8_goes_43, e_X8_goes_44, e_X8_goes_45, e_X8_goes_46, e_X8_goes_47, e_X8_goes_48, e_X8_goes_49, nI_leI, if_f, M.f0, M1.f0, Option.bind_some, nI_add, l1, l2, q, q2, not_false_eq_true, if_true, if_false, e1, e2]
/-- one column of the list -/
theorem goes_2 {f : Nat → Int32} {r p : Nat} (hp : p < 5) : ∀ (n k : Nat) (h : XH) (f' : Nat → Int32), k + n = 15 → r ≤ k → MdO h m cm ca lm ra nu nr mm nm → h[m + 1]? = some (ia 113 f') →
    (∀ i, (i < 1 + 16 * p ∨ 1 + 16 * p + 16 ≤ i) → f' i = f i) → (∀ j, j < 16 → f' (1 + 16 * p + j) = if r ≤ j ∧ j < k then f (1 + 16 * p + j + 1) else f (1 + 16 * p + j)) →
    ∃ h'' f'', xe XP d 155 (65, [.ref m, .int (nI r), .int (nI p), .int (nI k)], [], h) = xe XP d 155 (92, [.ref m, .int (nI r), .int (nI p), .int (nI 15)], [], h'') ∧ h''[m + 1]? = some (ia 113 f'') ∧ (∀ i, (i < 1 + 16 * p ∨ 1 + 16 * p + 16 ≤ i) → f'' i = f i) ∧ (∀ j, j < 16 → f'' (1 + 16 * p + j) = if r ≤ j ∧ j < 15 then f (1 + 16 * p + j + 1) else f (1 + 16 * p + j)) ∧ Same h h'' (m + 1) (m + 2) := by
  intro n
  induction n with
  | zero =>
    intro k h f' hk hr M A p1 p2
    have hk : k = 15 := by omega
    subst hk
    refine ⟨h, f', ?_, A, p1, p2, Same.refl _ _ _⟩
    simp (disch := first | assumption | omega) only [e_X8_goes_65, e_X8_goes_66, e_X8_goes_67, nI_leI, if_t]
  | succ n ih =>
    intro k h f' hk hr M A p1 p2
    have pk := p2 (k + 1) (by omega)
    rw [if_neg (by omega)] at pk
    have l1 := ra_ld A (1 + 16 * p + k + 1) (by omega)
    rw [show 1 + 16 * p + k + 1 = 1 + 16 * p + (k + 1) by omega, pk, ← show 1 + 16 * p + k + 1 = 1 + 16 * p + (k + 1) by omega] at l1
    obtain ⟨h1, e1, A1, s1⟩ := ia_w A (by decide) (show 1 + 16 * p + k < 113 by omega) (f (1 + 16 * p + k + 1))
    have M1 : MdO h1 m cm ca lm ra nu nr mm nm := by unfold MdO; rw [s1.2 _ (by omega)]; exact M
    obtain ⟨h'', f'', e3, A3, p3, p4, s3⟩ := ih (k + 1) h1 _ (by omega) (by omega) M1 A1 (fun i hi => by rw [upd_n (by omega)]; exact p1 i hi) (fun j hj => by
      by_cases q : j = k
      · subst q
        rw [upd_s, if_pos (by omega)]
      · rw [upd_n (by omega), p2 j hj]
        by_cases q3 : r ≤ j ∧ j < k
        · rw [if_pos q3, if_pos (by omega)]
        · rw [if_neg q3, if_neg (by omega)])
    refine ⟨h'', f'', ?_, A3, p3, p4, s1.trans s3⟩
    rw [← e3, e_X8_goes_65]
    simp (disch := first | assumption | omega) only [e_X8_goes_66, e_X8_goes_67, e_X8_goes_68, e_X8_goes_69, e_X8_goes_70, e_X8_goes_71, e_X8_goes_72, e_X8_goes_73, e_X8_goes_74, e_X8_goes_75, e_X8_goes_76, e_X8_goes_77, e_X8_goes_78, e_X8_goes_79, e_X8_goes_80, e_X8_goes_81, e_X8_goes_82, e_X8_goes_83, e_X8_goes_84, e_X8_goes_85, e_X8_goes_86, e_X8_goes_87, e_X8_goes_88, e_X8_goes_89, e_X8_goes_90, e_X8_goes_91, nI_leI, if_f, M.f0, Option.bind_some, nI_add, pk_mul, l1, e1]
theorem goes_3 {f : Nat → Int32} {r : Nat} (hr : r < 16) : ∀ (n p : Nat) (h : XH) (f' : Nat → Int32) (w3 : Value), p + n = 5 → MdO h m cm ca lm ra nu nr mm nm → h[m + 1]? = some (ia 113 f') →
    (∀ i, (i < 1 ∨ 81 ≤ i) → f' i = f i) → (∀ q j, q < 5 → j < 16 → f' (1 + 16 * q + j) = if q < p ∧ r ≤ j ∧ j < 15 then f (1 + 16 * q + j + 1) else f (1 + 16 * q + j)) →
    ∃ h'' f'', xe XP d 155 (60, [.ref m, .int (nI r), .int (nI p), w3], [], h) = some (none, h'') ∧ h''[m + 1]? = some (ia 113 f'') ∧ (∀ i, (i < 1 ∨ 81 ≤ i) → f'' i = f i) ∧ (∀ q j, q < 5 → j < 16 → f'' (1 + 16 * q + j) = if r ≤ j ∧ j < 15 then f (1 + 16 * q + j + 1) else f (1 + 16 * q + j)) ∧ Same h h'' (m + 1) (m + 2) := by
  intro n
  induction n with
  | zero =>
    intro p h f' w3 hp M A p1 p2
    have hp : p = 5 := by omega
    subst hp
    refine ⟨h, f', ?_, A, p1, fun q j hq hj => ?_, Same.refl _ _ _⟩
    · simp (disch := first | assumption | omega) only [e_X8_goes_60, e_X8_goes_61, e_X8_goes_62, e_X8_goes_94, nI_leI, if_t]
    · rw [p2 q j hq hj]
      by_cases q3 : r ≤ j ∧ j < 15
      · rw [if_pos ⟨hq, q3⟩, if_pos q3]
      · rw [if_neg (fun hh => q3 hh.2), if_neg q3]
  | succ n ih =>
    intro p h f' w3 hp M A p1 p2
    obtain ⟨h1, f1, e1, A1, o1, v1, s1⟩ := goes_2 (d := d) (f := f') (r := r) (show p < 5 by omega) (15 - r) r h f' (by omega) (Nat.le_refl _) M A (fun i _ => rfl) (fun j hj => by rw [if_neg (by omega)])
    have M1 : MdO h1 m cm ca lm ra nu nr mm nm := by unfold MdO; rw [s1.2 _ (by omega)]; exact M
    obtain ⟨h'', f'', e3, A3, p3, p4, s3⟩ := ih (p + 1) h1 f1 (.int (nI 15)) (by omega) M1 A1 (fun i hi => by rw [o1 i (by omega)]; exact p1 i hi) (fun q j hq hj => by
      by_cases g : q = p
      · subst g
        rw [v1 j hj]
        have a1 := p2 q j hq hj
        rw [if_neg (by omega)] at a1
        by_cases g2 : r ≤ j ∧ j < 15
        · have a2 := p2 q (j + 1) hq (by omega)
          rw [if_neg (by omega)] at a2
          rw [if_pos g2, if_pos ⟨by omega, g2⟩]
          exact a2
        · rw [if_neg g2, if_neg (fun hh => g2 hh.2)]
          exact a1
      · rw [o1 _ (by omega), p2 q j hq hj]
        by_cases g2 : q < p ∧ r ≤ j ∧ j < 15
        · rw [if_pos g2, if_pos ⟨by omega, g2.2⟩]
        · rw [if_neg g2, if_neg (fun hh => g2 ⟨by omega, hh.2⟩)])
    refine ⟨h'', f'', ?_, A3, p3, p4, s1.trans s3⟩
    rw [← e3, e_X8_goes_60]
    simp (disch := first | assumption | omega) only [e_X8_goes_61, e_X8_goes_62, e_X8_goes_63, e_X8_goes_64, e_X8_goes_92, e_X8_goes_93, nI_leI, if_f, e1, nI_add]
theorem dlI_nI {r x : Nat} (hx : x < 1000) (hr : r < 1000) (hne : x ≠ r) : dlI r (nI x) = nI (if r < x then x - 1 else x) := by
  unfold dlI
  rw [if_neg (by rw [nI_eq (by omega) (by omega)]; exact hne)]
  by_cases q : x ≤ r
  · rw [if_pos (by rw [nI_leI (by omega) (by omega)]; exact q), if_neg (by omega)]
  · rw [if_neg (by rw [nI_leI (by omega) (by omega)]; exact q), if_pos (by omega), pk_sub (by omega)]
theorem q_goes {f : Nat → Int32} (M : MdO h m cm ca lm ra nu nr mm nm) (A : h[m + 1]? = some (ia 113 f)) (L : RwL f l) (R : RwS f l σ) {r : Nat} (hr : r < l.length) : ∃ h' f', xc XP d 155 [.ref m, .int (nI r)] h = some (none, h') ∧ h'[m + 1]? = some (ia 113 f') ∧ RwL f' (l.eraseIdx r) ∧ RwS f' (l.eraseIdx r) (slDel σ r) ∧ Same h h' (m + 1) (m + 2) := by
  have h16 := L.1
  obtain ⟨h1, f1, w3, e1, A1, o1, v1, s1⟩ := goes_1 (d := d) (f := f) (r := r) 16 0 h f .null (by omega) M A (fun i _ => rfl) (fun s hs => by rw [if_neg (by omega), if_neg (by omega)]; exact ⟨rfl, rfl⟩)
  have M1 : MdO h1 m cm ca lm ra nu nr mm nm := by unfold MdO; rw [s1.2 _ (by omega)]; exact M
  have l0 := ra_ld A1 0 (by omega)
  rw [o1 0 (by omega), L.2.2.1] at l0
  obtain ⟨h2, e2, A2, s2⟩ := ia_w A1 (by decide) (show 0 < 113 by omega) (nI (l.length - 1))
  have M2 : MdO h2 m cm ca lm ra nu nr mm nm := by unfold MdO; rw [s2.2 _ (by omega)]; exact M1
  obtain ⟨h3, f3, e3, A3, o3, v3, s3⟩ := goes_3 (d := d) (f := upd f1 0 (nI (l.length - 1))) (r := r) (by omega) 5 0 h2 _ w3 (by omega) M2 A2 (fun i _ => rfl) (fun q j _ _ => by rw [if_neg (by omega)])
  have hlen : (l.eraseIdx r).length = l.length - 1 := by rw [List.length_eraseIdx]; simp [hr]
  refine ⟨h3, f3, ?_, A3, ⟨by omega, fun q hq => L.2.1 q (List.mem_of_mem_eraseIdx hq), ?_, ?_⟩, ?_, (s1.trans s2).trans s3⟩
  · rw [n_X8_goes]
    simp only [e_X8_goes_0, e_X8_goes_1, e1]
    simp (disch := first | assumption | omega) only [e_X8_goes_50, e_X8_goes_51, e_X8_goes_52, e_X8_goes_53, e_X8_goes_54, e_X8_goes_55, e_X8_goes_56, e_X8_goes_57, e_X8_goes_58, e_X8_goes_59, M1.f0, Option.bind_some, l0, pk_sub, e2, e3]
  · rw [o3 0 (by omega), upd_s, hlen]
  · intro j hj
    rw [hlen] at hj
    have e : ∀ q, q < 5 → f3 (1 + 16 * q + j) = if j < r then f (1 + 16 * q + j) else f (1 + 16 * q + (j + 1)) := by
      intro q hq
      rw [v3 q j hq (by omega)]
      by_cases g : j < r
      · rw [if_neg (by omega), if_pos g, upd_n (by omega), o1 _ (by omega)]
      · rw [if_pos (by omega), if_neg g, upd_n (by omega), o1 _ (by omega)]
        rfl
    rw [rlN_del]
    have E0 := e 0 (by omega)
    have E1 := e 1 (by omega)
    have E2 := e 2 (by omega)
    have E3 := e 3 (by omega)
    have E4 := e 4 (by omega)
    by_cases g : j < r
    · rw [if_pos g] at E0 E1 E2 E3 E4 ⊢
      obtain ⟨a0, a1, a2, a3, a4⟩ := L.2.2.2 j (by omega)
      exact ⟨E0.trans a0, E1.trans a1, E2.trans a2, E3.trans a3, E4.trans a4⟩
    · rw [if_neg g] at E0 E1 E2 E3 E4 ⊢
      obtain ⟨a0, a1, a2, a3, a4⟩ := L.2.2.2 (j + 1) (by omega)
      exact ⟨E0.trans a0, E1.trans a1, E2.trans a2, E3.trans a3, E4.trans a4⟩
  · intro s hs
    have q := R s hs
    have g1 : f3 (81 + s) = dlI r (f (81 + s)) := by rw [o3 _ (by omega), upd_n (by omega)]; exact (v1 s hs).1
    have g2 : f3 (97 + s) = if f (81 + s) = nI r then nI 0 else f (97 + s) := by rw [o3 _ (by omega), upd_n (by omega)]; exact (v1 s hs).2
    have rn : ¬ (-4 : Int32) = nI r := fun e => nI_n4 (n := r) (by omega) e.symm
    unfold slDel
    cases hx : σ s with
    | none =>
      rw [hx] at q
      have q : f (81 + s) = -4 := q
      show f3 (81 + s) = -4
      rw [g1, q]
      unfold dlI
      rw [if_neg rn, if_pos]
      exact Int32.le_of_lt (Int32.lt_of_lt_of_le (show (-4 : Int32) < nI 0 by decide) (nI_ge0 (by omega)))
    | some x =>
      rw [hx] at q
      obtain ⟨x1, x2, x3, x4⟩ := q
      by_cases g : x.1 = r
      · simp only [g, if_true]
        show f3 (81 + s) = -4
        rw [g1, x3, g]
        unfold dlI
        rw [if_pos rfl]
      · simp only [g, if_false]
        have hq : rlN (l.eraseIdx r) (if r < x.1 then x.1 - 1 else x.1) = rlN l x.1 := by
          rw [rlN_del]
          by_cases g3 : r < x.1
          · rw [if_pos g3, if_neg (by omega), show x.1 - 1 + 1 = x.1 by omega]
          · rw [if_neg g3, if_pos (by omega)]
        refine ⟨?_, ?_, ?_, ?_⟩
        · show (if r < x.1 then x.1 - 1 else x.1) < (l.eraseIdx r).length
          split <;> omega
        · show x.2 < rwR (rlN (l.eraseIdx r) (if r < x.1 then x.1 - 1 else x.1))
          rw [hq]; exact x2
        · rw [g1, x3, dlI_nI (by omega) (by omega) g]
        · rw [g2, x3, if_neg (by rw [nI_eq (by omega) (by omega)]; exact g)]
          exact x4
/-- another board, the rest as it is -/
theorem Md.setB {h' : XH} {l' : List Rl} {σ' : Sl} {f' : Nat → Int32} (K : Md h m S) (A' : h'[m + 1]? = some (ia 113 f')) (L' : RwL f' l') (R' : RwS f' l' σ') (s : Same h h' (m + 1) (m + 2)) : Md h' m (mkS S.tx l' σ' S.ms S.nx S.sz S.pb) := by
  obtain ⟨b0, ⟨ra, nu, nr, nm, M⟩, -, ⟨c, C, hC⟩, ⟨f3, F3⟩, ⟨g, G⟩, ⟨t, X, hX⟩, ⟨b, Bo⟩, ⟨T, T7⟩, ⟨F8, F9, M8, M9, hM⟩, ⟨F10, F11, M10, M11⟩, ⟨f12, M12⟩⟩ := K
  exact ⟨b0, ⟨ra, nu, nr, nm, by unfold MdO; rw [s.2 _ (by omega)]; exact M⟩, ⟨f', A', L', R'⟩, ⟨c, by rw [s.2 _ (by omega)]; exact C, hC⟩, ⟨f3, by rw [s.2 _ (by omega)]; exact F3⟩, ⟨g, by rw [s.2 _ (by omega)]; exact G⟩, ⟨t, by rw [s.2 _ (by omega)]; exact X, hX⟩, ⟨b, by rw [s.2 _ (by omega)]; exact Bo⟩, ⟨T, by rw [s.2 _ (by omega)]; exact T7⟩, ⟨F8, F9, by rw [s.2 _ (by omega)]; exact M8, by rw [s.2 _ (by omega)]; exact M9, hM⟩, ⟨F10, F11, by rw [s.2 _ (by omega)]; exact M10, by rw [s.2 _ (by omega)]; exact M11⟩, ⟨f12, by rw [s.2 _ (by omega)]; exact M12⟩⟩
theorem q_goesS (K : Md h m S) {r : Nat} (hr : r < S.l.length) : ∃ h', xc XP d 155 [.ref m, .int (nI r)] h = some (none, h') ∧ Md h' m (mkS S.tx (S.l.eraseIdx r) (slDel S.s r) S.ms S.nx S.sz S.pb) ∧ Same h h' (m + 1) (m + 2) := by
  have K0 := K
  obtain ⟨b0, ⟨ra, nu, nr, nm, M⟩, ⟨f, A, L, R⟩, -⟩ := K
  obtain ⟨h', f', e, A', L', R', s⟩ := q_goes (d := d) M A L R hr
  exact ⟨h', e, K0.setB A' L' R' s, s⟩
theorem q_dropM (K : Md h m S) (x : Int32) : ∃ h', xc XP (d + 14) 156 [.ref m, .int x] h = some (some (.int (aDrop S x).1), h') ∧ Md h' m (aDrop S x).2 ∧ Same h h' m (m + 13) := by
  have K0 := K
  obtain ⟨b0, ⟨ra, nu, nr, nm, M⟩, ⟨f, A, L, R⟩, -⟩ := K
  have c0 := M.k
  have h16 := L.1
  have hn := q_isRuleNumber (d := d + 12) M A L (x := x)
  have ei : isRn S.l x = isR S x := rfl
  rw [ei] at hn
  unfold aDrop
  rw [n_X8_drop]
  cases hx : isR S x with
  | false =>
    rw [hx] at hn
    refine ⟨h, ?_, K0, Same.refl _ _ _⟩
    simp (disch := first | assumption | omega) only [e_X8_drop_0, e_X8_drop_1, e_X8_drop_2, e_X8_drop_3, e_X8_drop_4, e_X8_drop_5, hn, xbk_i, bI_f, not_true, if_false, Bool.false_eq_true]
  | true =>
    rw [hx] at hn
    obtain ⟨n, hn2, rfl⟩ := isR_of h16 hx
    obtain ⟨h1, r1, n1, q1, z1, e1, K1, M1, s1, -⟩ := q_remembers (d := d + 13) K0
    have c1 := M1.k
    obtain ⟨h2, e2, K2, s2⟩ := q_goesS (d := d + 13) K1 (r := n) hn2
    have K2' := K2
    obtain ⟨b2, ⟨ra2, nu2, nr2, nm2, M2⟩, ⟨f2, A2, L2, R2⟩, -⟩ := K2
    rw [if_pos rfl, xN_nI (by omega)]
    refine ⟨h2, ?_, K2', (s1.weak (by omega) (by omega)).trans (s2.weak (by omega) (by omega))⟩
    have l0 := ra_ld A2 0 (by omega)
    rw [L2.2.2.1] at l0
    have hl : (mkS S.tx (S.l.eraseIdx n) (slDel S.s n) S.ms S.nx S.sz S.pb).l.length = S.l.length - 1 := by
      show (S.l.eraseIdx n).length = _
      rw [List.length_eraseIdx, if_pos hn2]
    have l0 : xld h2 (m + 1) 0 (nI 0) = some (nI (S.l.length - 1)) := by rw [← hl]; exact l0
    simp (disch := first | assumption | omega) only [e_X8_drop_0, e_X8_drop_1, e_X8_drop_2, e_X8_drop_3, e_X8_drop_4, e_X8_drop_5, e_X8_drop_6, e_X8_drop_7, e_X8_drop_8, e_X8_drop_9, e_X8_drop_10, e_X8_drop_11, e_X8_drop_12, e_X8_drop_13, e_X8_drop_14, e_X8_drop_15, hn, xbk_i, xbk_v, bI_0, Bool.true_eq_false, not_false_eq_true, if_true, e1, e2, M2.f0, Option.bind_some, l0]
end Md24R
