/-! THE MODEL: all rows from the first slot on, by rank -/
def lsS (c : List (Nat × Nat)) : Sl := fun s => c[s]?
theorem pkS_eq {l : List Rl} {k r : Nat} (hq : nofR l k = some r) : pkS l k = (List.range (rwR (rlN l r))).map fun p => (r, p) := by unfold pkS; rw [hq]
section Row6R
variable {a : Nat} {l : List Rl} {d : Nat}
theorem rs_put {h : XH} {f : Nat → Int32} {c : List (Nat × Nat)} {r p : Nat} (A : h[a]? = some (ia 113 f)) (L : RwL f l) (R : RwS f l (lsS c)) (hc : c.length < 16) (hr : r < l.length) (hp : p < rwR (rlN l r)) : ∃ h1 h2 f', xst h a 0 (nI (81 + c.length)) (nI r) = some h1 ∧ xst h1 a 0 (nI (97 + c.length)) (nI p) = some h2 ∧ h2[a]? = some (ia 113 f') ∧ RwL f' l ∧ RwS f' l (lsS (c ++ [(r, p)])) ∧ Same h h2 a (a + 1) := by
  obtain ⟨h1, e1, A1, s1⟩ := ia_w A (by decide) (show 81 + c.length < 113 by omega) (nI r)
  obtain ⟨h2, e2, A2, s2⟩ := ia_w A1 (by decide) (show 97 + c.length < 113 by omega) (nI p)
  refine ⟨h1, h2, _, e1, e2, A2, L.congr (fun k hk => by rw [upd_n (by omega), upd_n (by omega)]), fun s hs => ?_, s1.trans s2⟩
  unfold lsS
  by_cases g : s < c.length
  · rw [List.getElem?_append_left g]
    have q := R s hs
    unfold lsS at q
    unfold rsIs at q ⊢
    rw [upd_n (by omega), upd_n (by omega), upd_n (by omega), upd_n (by omega)]
    exact q
  · by_cases g2 : s = c.length
    · subst g2
      simp only [List.getElem?_concat_length]
      exact ⟨hr, hp, by rw [upd_n (by omega), upd_s], upd_s⟩
    · have q := R s hs
      unfold lsS at q
      rw [List.getElem?_eq_none (by omega)] at q
      rw [List.getElem?_eq_none (by simp; omega)]
      show upd _ _ _ (81 + s) = -4
      rw [upd_n (by omega), upd_n (by omega)]
      exact q
theorem pk_inner {r : Nat} {w2 : Value} (hr : r < l.length) (c : List (Nat × Nat)) (hc : c.length + rwR (rlN l r) ≤ 16) : ∀ (n p : Nat) (h : XH) (f : Nat → Int32), p + n = rwR (rlN l r) → h[a]? = some (ia 113 f) → RwL f l → RwS f l (lsS (c ++ (List.range p).map fun p => (r, p))) →
    ∃ h' f', xe XP (d + 2) 139 (32, [.ref a, .int (nI (c.length + p)), w2, .int (nI r), .int (nI p)], [], h) = xe XP (d + 2) 139 (54, [.ref a, .int (nI (c.length + rwR (rlN l r))), w2, .int (nI r), .int (nI (rwR (rlN l r)))], [], h') ∧ h'[a]? = some (ia 113 f') ∧ RwL f' l ∧ RwS f' l (lsS (c ++ (List.range (rwR (rlN l r))).map fun p => (r, p))) ∧ Same h h' a (a + 1) := by
  intro n
  induction n with
  | zero =>
    intro p h f hp A L R
    have hp : p = rwR (rlN l r) := by omega
    subst hp
    have l1 := L.1
    refine ⟨h, f, ?_, A, L, R, Same.refl _ _ _⟩
    simp (disch := first | assumption | omega) only [e_X8_packs_32, e_X8_packs_33, e_X8_packs_34, e_X8_packs_35, e_X8_packs_36, e_X8_packs_37, e_X8_packs_38, nI_lt0, if_f, q_rowsOfM A L hr, xbk_i, nI_leI, if_t, Nat.le_refl, if_true]
  | succ n ih =>
    intro p h f hp A L R
    have l1 := L.1
    have hlen : (c ++ (List.range p).map fun p => (r, p)).length = c.length + p := by simp
    obtain ⟨h1, h2, f', e1, e2, A2, L2, R2, s2⟩ := rs_put A L R (by omega) hr (show p < rwR (rlN l r) by omega)
    rw [hlen] at e1 e2
    rw [List.append_assoc, show ((List.range p).map fun p => (r, p)) ++ [(r, p)] = (List.range (p + 1)).map fun p => (r, p) by rw [List.range_succ, List.map_append]; rfl] at R2
    obtain ⟨h3, f3, e3, A3, L3, R3, s3⟩ := ih (p + 1) h2 f' (by omega) A2 L2 R2
    refine ⟨h3, f3, ?_, A3, L3, R3, s2.trans s3⟩
    rw [show c.length + (p + 1) = c.length + p + 1 by omega] at e3
    rw [e_X8_packs_32]
    simp (disch := first | assumption | omega) only [e_X8_packs_33, e_X8_packs_34, e_X8_packs_35, e_X8_packs_36, e_X8_packs_37, e_X8_packs_38, e_X8_packs_39, e_X8_packs_40, e_X8_packs_41, e_X8_packs_42, e_X8_packs_43, e_X8_packs_44, e_X8_packs_45, e_X8_packs_46, e_X8_packs_47, e_X8_packs_48, e_X8_packs_49, e_X8_packs_50, e_X8_packs_51, e_X8_packs_52, e_X8_packs_53, nI_lt0, if_f, q_rowsOfM A L hr, xbk_i, nI_leI, if_false, nI_add, e1, e2, Option.bind_some, e3]
end Row6R
