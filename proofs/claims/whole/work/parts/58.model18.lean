/-! THE MODEL: all rows from the first slot on, by rank -/
def lsS (c : List (Nat × Nat)) : Sl := fun s => c[s]?
theorem pkS_eq {l : List Rl} {k r : Nat} (hq : nofR l k = some r) : pkS l k = (List.range (rwR (rlN l r))).map fun p => (r, p) := by unfold pkS; rw [hq]
section Row6R
variable {a : Nat} {l : List Rl} {d : Nat}
theorem rs_put {h : XH} {f : Nat → Int32} {c : List (Nat × Nat)} {r p : Nat} (A : h[a]? = some (ia 113 f)) (L : RwL f l) (R : RwS f l (lsS c)) (hc : c.length < 16) (hr : r < l.length) (hp : p < rwR (rlN l r)) : ∃ h1 h2 f', xst h a 0 (nI (81 + c.length)) (nI r) = some h1 ∧ xst h1 a 0 (nI (97 + c.length)) (nI p) = some h2 ∧ h2[a]? = some (ia 113 f') ∧ RwL f' l ∧ RwS f' l (lsS (c ++ [(r, p)])) ∧ Same h h2 a (a + 1) := by
  obtain ⟨h1, e1, A1, s1⟩ := ia_w A (by decide) (show 81 + c.length < 113 by omega) (nI r)
  obtain ⟨h2, e2, A2, s2⟩ := ia_w A1 (by decide) (show 97 + c.length < 113 by omega) (nI p)
  refine ⟨h1, h2, _, e1, e2, A2, L.congr (fun k hk => by rw [upd_n (by omega), upd_n (by omega)]), fun s hs => ?_, s1.trans s2⟩
  unfold lsS
  by_cases g : s < c.length
  · rw [List.getElem?_append_left g]
    have q := R s hs
    unfold lsS at q
    unfold rsIs at q ⊢
    rw [upd_n (by omega), upd_n (by omega), upd_n (by omega), upd_n (by omega)]
    exact q
  · by_cases g2 : s = c.length
    · subst g2
      simp only [List.getElem?_concat_length]
      exact ⟨hr, hp, by rw [upd_n (by omega), upd_s], upd_s⟩
    · have q := R s hs
      unfold lsS at q
      rw [List.getElem?_eq_none (by omega)] at q
      rw [List.getElem?_eq_none (by simp; omega)]
      show upd _ _ _ (81 + s) = -4
      rw [upd_n (by omega), upd_n (by omega)]
      exact q
theorem pk_inner {r : Nat} {w2 : Value} (hr : r < l.length) (c : List (Nat × Nat)) (hc : c.length + rwR (rlN l r) ≤ 16) : ∀ (n p : Nat) (h : XH) (f : Nat → Int32), p + n = rwR (rlN l r) → h[a]? = some (ia 113 f) → RwL f l → RwS f l (lsS (c ++ (List.range p).map fun p => (r, p))) →
    ∃ h' f', xe XP (d + 2) 139 (32, [.ref a, .int (nI (c.length + p)), w2, .int (nI r), .int (nI p)], [], h) = xe XP (d + 2) 139 (54, [.ref a, .int (nI (c.length + rwR (rlN l r))), w2, .int (nI r), .int (nI (rwR (rlN l r)))], [], h') ∧ h'[a]? = some (ia 113 f') ∧ RwL f' l ∧ RwS f' l (lsS (c ++ (List.range (rwR (rlN l r))).map fun p => (r, p))) ∧ Same h h' a (a + 1) := by
  intro n
  induction n with
  | zero =>
    intro p h f hp A L R
    have hp : p = rwR (rlN l r) := by omega
    subst hp
    have l1 := L.1
    refine ⟨h, f, ?_, A, L, R, Same.refl _ _ _⟩
    simp (disch := first | assumption | omega) only [e_X8_packs_32, e_X8_packs_33, e_X8_packs_34, e_X8_packs_35, e_X8_packs_36, e_X8_packs_37, e_X8_packs_38, nI_lt0, if_f, q_rowsOfM A L hr, xbk_i, nI_leI, if_t, Nat.le_refl, if_true, if_false]
  | succ n ih =>
    intro p h f hp A L R
    have l1 := L.1
    have hlen : (c ++ (List.range p).map fun p => (r, p)).length = c.length + p := by simp
    obtain ⟨h1, h2, f', e1, e2, A2, L2, R2, s2⟩ := rs_put A L R (by omega) hr (show p < rwR (rlN l r) by omega)
    rw [hlen] at e1 e2
    rw [List.append_assoc, show ((List.range p).map fun p => (r, p)) ++ [(r, p)] = (List.range (p + 1)).map fun p => (r, p) by rw [List.range_succ, List.map_append]; rfl] at R2
    obtain ⟨h3, f3, e3, A3, L3, R3, s3⟩ := ih (p + 1) h2 f' (by omega) A2 L2 R2
    refine ⟨h3, f3, ?_, A3, L3, R3, s2.trans s3⟩
    rw [show c.length + (p + 1) = c.length + p + 1 by omega] at e3
    rw [e_X8_packs_32]
    simp (disch := first | assumption | omega) only [e_X8_packs_33, e_X8_packs_34, e_X8_packs_35, e_X8_packs_36, e_X8_packs_37, e_X8_packs_38, e_X8_packs_39, e_X8_packs_40, e_X8_packs_41, e_X8_packs_42, e_X8_packs_43, e_X8_packs_44, e_X8_packs_45, e_X8_packs_46, e_X8_packs_47, e_X8_packs_48, e_X8_packs_49, e_X8_packs_50, e_X8_packs_51, e_X8_packs_52, e_X8_packs_53, nI_lt0, if_f, q_rowsOfM A L hr, xbk_i, nI_leI, if_false, nI_add, e1, e2, Option.bind_some, e3]
theorem pk_outer {P : Sl} (hP : ∀ s, P s = (pkL l 100)[s]?) (hd : dst l) (hA : allR l ≤ 16) : ∀ (n k : Nat) (h : XH) (f : Nat → Int32) (w3 w4 : Value), k + n = 100 → h[a]? = some (ia 113 f) → RwL f l → RwS f l (lsS (pkL l k)) →
    ∃ h' f', xe XP (d + 2) 139 (23, [.ref a, .int (nI (pkL l k).length), .int (nI k), w3, w4], [], h) = some (none, h') ∧ h'[a]? = some (ia 113 f') ∧ RwL f' l ∧ RwS f' l P ∧ Same h h' a (a + 1) := by
  intro n
  induction n with
  | zero =>
    intro k h f w3 w4 hk A L R
    have hk : k = 100 := by omega
    have hP' : ∀ s, P s = (pkL l k)[s]? := fun s => by rw [hk, hP s]
    refine ⟨h, f, ?_, A, L, fun s hs => by rw [hP' s]; exact R s hs, Same.refl _ _ _⟩
    generalize pkL l k = c
    subst hk
    simp (disch := first | assumption | omega) only [e_X8_packs_23, e_X8_packs_24, e_X8_packs_25, e_X8_packs_56, nI_leI, if_t, Nat.le_refl, if_true]
  | succ n ih =>
    intro k h f w3 w4 hk A L R
    have hlen := pkL_len hd k
    have hsum := sumK_succ hd k
    have hle := sumK_le l (k + 1)
    have hnx : pkL l (k + 1) = pkL l k ++ pkS l k := rfl
    have l1 := L.1
    rw [e_X8_packs_23]
    cases hq : nofR l k with
    | none =>
      have hpk : pkS l k = [] := by unfold pkS; rw [hq]
      rw [hpk, List.append_nil] at hnx
      obtain ⟨h', f', e, r⟩ := ih (k + 1) h f (.int (-4)) (.int (nI 0)) (by omega) A L (by rw [hnx]; exact R)
      rw [hnx] at e
      refine ⟨h', f', ?_, r⟩
      simp (disch := first | assumption | omega) only [e_X8_packs_24, e_X8_packs_25, e_X8_packs_26, e_X8_packs_27, e_X8_packs_28, e_X8_packs_29, e_X8_packs_30, e_X8_packs_31, e_X8_packs_32, e_X8_packs_33, e_X8_packs_54, e_X8_packs_55, nI_leI, if_f, if_false, q_ofRank A L, hq, oI_none, xbk_i, m4_lt0, if_true, nI_add, e]
    | some r =>
      obtain ⟨g1, g2⟩ := nofR_some hq
      have hpk := pkS_eq hq
      have hpl : (pkS l k).length = rwR (rlN l r) := by rw [hpk]; simp
      obtain ⟨h2, f2, e2, A2, L2, R2, s2⟩ := pk_inner (d := d) (a := a) (w2 := .int (nI k)) g1 (pkL l k) (by omega) (rwR (rlN l r)) 0 h f (by omega) A L (by simpa using R)
      rw [← hpk, ← hnx] at R2
      obtain ⟨h', f', e, A', L', R', s'⟩ := ih (k + 1) h2 f2 (.int (nI r)) (.int (nI (rwR (rlN l r)))) (by omega) A2 L2 R2
      rw [hnx, List.length_append, hpl] at e
      refine ⟨h', f', ?_, A', L', R', s2.trans s'⟩
      rw [show (pkL l k).length + 0 = (pkL l k).length from Nat.add_zero _] at e2
      simp (disch := first | assumption | omega) only [e_X8_packs_24, e_X8_packs_25, e_X8_packs_26, e_X8_packs_27, e_X8_packs_28, e_X8_packs_29, e_X8_packs_30, e_X8_packs_31, e_X8_packs_54, e_X8_packs_55, nI_leI, if_f, if_false, q_ofRank A L, hq, oI_some, xbk_i, nI_add, e2, e]
theorem q_packsP {P : Sl} (hP : ∀ s, P s = (pkL l 100)[s]?) {h : XH} {f : Nat → Int32} (A : h[a]? = some (ia 113 f)) (L : RwL f l) (hd : dst l) (hA : allR l ≤ 16) : ∃ h' f', xc XP (d + 2) 139 [.ref a] h = some (none, h') ∧ h'[a]? = some (ia 113 f') ∧ RwL f' l ∧ RwS f' l P ∧ Same h h' a (a + 1) := by
  rw [n_X8_packs]
  simp only [e_X8_packs_0, e_X8_packs_1]
  have key : ∀ n s (h1 : XH) (f1 : Nat → Int32), s + n = 16 → h1[a]? = some (ia 113 f1) → RwL f1 l → (∀ j, j < s → f1 (81 + j) = -4) → Same h h1 a (a + 1) → ∃ h' f', xe XP (d + 2) 139 (2, [.ref a, .int (nI s), .null, .null, .null], [], h1) = some (none, h') ∧ h'[a]? = some (ia 113 f') ∧ RwL f' l ∧ RwS f' l P ∧ Same h h' a (a + 1) := by
    intro n
    induction n with
    | zero =>
      intro s h1 f1 hs A1 L1 K1 s1
      have hs : s = 16 := by omega
      subst hs
      obtain ⟨h', f', e, A', L', R', s'⟩ := pk_outer (d := d) (a := a) hP hd hA 100 0 h1 f1 .null .null (by omega) A1 L1 (fun j hj => K1 j hj)
      refine ⟨h', f', ?_, A', L', R', s1.trans s'⟩
      simp (disch := first | assumption | omega) only [e_X8_packs_2, e_X8_packs_3, e_X8_packs_4, e_X8_packs_19, e_X8_packs_20, e_X8_packs_21, e_X8_packs_22, nI_leI, if_t, Nat.le_refl, if_true]
      exact e
    | succ n ih =>
      intro s h1 f1 hs A1 L1 K1 s1
      obtain ⟨h2, e2, A2, s2⟩ := ia_w A1 (by decide) (show 81 + s < 113 by omega) (-4)
      obtain ⟨h3, e3, A3, s3⟩ := ia_w A2 (by decide) (show 97 + s < 113 by omega) (nI 0)
      obtain ⟨h', f', e, r⟩ := ih (s + 1) h3 _ (by omega) A3 (L1.congr (fun k hk => by rw [upd_n (by omega), upd_n (by omega)])) (fun j hj => by
        by_cases q : j = s
        · rw [q, upd_n (by omega), upd_s]
        · rw [upd_n (by omega), upd_n (by omega)]; exact K1 j (by omega)) ((s1.trans s2).trans s3)
      refine ⟨h', f', ?_, r⟩
      rw [e_X8_packs_2]
      simp (disch := first | assumption | omega) only [e_X8_packs_3, e_X8_packs_4, e_X8_packs_5, e_X8_packs_6, e_X8_packs_7, e_X8_packs_8, e_X8_packs_9, e_X8_packs_10, e_X8_packs_11, e_X8_packs_12, e_X8_packs_13, e_X8_packs_14, e_X8_packs_15, e_X8_packs_16, e_X8_packs_17, e_X8_packs_18, nI_leI, if_f, if_false, nI_add, e2, e3, Option.bind_some, e]
  exact key 16 0 h f (by omega) A L (fun j hj => absurd hj (by omega)) (Same.refl _ _ _)
theorem q_packsM {h : XH} {f : Nat → Int32} (A : h[a]? = some (ia 113 f)) (L : RwL f l) (hd : dst l) (hA : allR l ≤ 16) : ∃ h' f', xc XP (d + 2) 139 [.ref a] h = some (none, h') ∧ h'[a]? = some (ia 113 f') ∧ RwL f' l ∧ RwS f' l (pk l) ∧ Same h h' a (a + 1) := q_packsP (fun s => pk_def l s) A L hd hA
end Row6R
