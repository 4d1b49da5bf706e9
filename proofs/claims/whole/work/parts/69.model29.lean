/-! THE MODEL: what is kept, what is given back -/
def cpN (g : Nat → Int32) (o : Nat) (s : Nat → Int32) (k : Nat) : Nat → Int32 := fun i => if o ≤ i ∧ i < o + k then s (i - o) else g i
theorem cpN_0 (g : Nat → Int32) (o : Nat) (s : Nat → Int32) : cpN g o s 0 = g := by
  funext i
  unfold cpN
  rw [if_neg (by omega)]
theorem cpN_s (g : Nat → Int32) (o : Nat) (s : Nat → Int32) (k : Nat) : upd (cpN g o s k) (o + k) (s k) = cpN g o s (k + 1) := by
  funext i
  by_cases q : i = o + k
  · subst q
    rw [upd_s]
    unfold cpN
    rw [if_pos (by omega), show o + k - o = k by omega]
  · rw [upd_n q]
    unfold cpN
    by_cases q2 : o ≤ i ∧ i < o + k
    · rw [if_pos q2, if_pos (by omega)]
    · rw [if_neg q2, if_neg (by omega)]
theorem cpN_in {g : Nat → Int32} {o : Nat} {s : Nat → Int32} {k i : Nat} (hi : i < k) : cpN g o s k (o + i) = s i := by
  unfold cpN
  rw [if_pos (by omega), show o + i - o = i by omega]
theorem cpN_out {g : Nat → Int32} {o : Nat} {s : Nat → Int32} {k i : Nat} (hi : i < o ∨ o + k ≤ i) : cpN g o s k i = g i := by
  unfold cpN
  rw [if_neg (by omega)]
theorem set_self {h : XH} {t : Nat} {c : XC} (e : h[t]? = some c) : h.set t c = h := by
  refine List.ext_getElem? (fun i => ?_)
  by_cases q : t = i
  · subst q
    rw [get_set e, e]
  · rw [get_ne _ q]
theorem loop_run {α : Type} (F : Nat → α) (e : Nat) (hs : ∀ j, j < e → F j = F (j + 1)) : ∀ n, n ≤ e → F 0 = F n := by
  intro n
  induction n with
  | zero => intro _; rfl
  | succ n ih => intro h; rw [ih (by omega), hs n (by omega)]
theorem RwS.congr {f f' : Nat → Int32} {l : List Rl} {σ : Sl} (R : RwS f l σ) (h : ∀ k, 81 ≤ k → k < 113 → f' k = f k) : RwS f' l σ := by
  intro s hs
  have q := R s hs
  unfold rsIs at q ⊢
  cases hx : σ s with
  | none => rw [hx] at q; simp only [] at q ⊢; rw [h _ (by omega) (by omega)]; exact q
  | some x => rw [hx] at q; simp only [] at q ⊢; rw [h _ (by omega) (by omega), h _ (by omega) (by omega)]; exact q
section Md23R
variable {h : XH} {m : Nat} {S : CS} {d : Nat} {cm ca lm ra nu nr mm nm : Int32}
theorem MdO.w2 (M : MdO h m cm ca lm ra nu nr mm nm) (y : Int32) : ∃ h', xpf h m 8 2 (.int y) = some h' ∧ MdO h' m y ca lm ra nu nr mm nm ∧ Same h h' m (m + 1) :=
  ⟨_, xpf_o M (k := 2) (by simp) _, get_set M _, (Same.refl _ _ _).set (by omega) (by omega) _⟩
theorem MdO.w3 (M : MdO h m cm ca lm ra nu nr mm nm) (y : Int32) : ∃ h', xpf h m 8 3 (.int y) = some h' ∧ MdO h' m cm y lm ra nu nr mm nm ∧ Same h h' m (m + 1) :=
  ⟨_, xpf_o M (k := 3) (by simp) _, get_set M _, (Same.refl _ _ _).set (by omega) (by omega) _⟩
theorem MdO.w8 (M : MdO h m cm ca lm ra nu nr mm nm) (y : Int32) : ∃ h', xpf h m 8 8 (.int y) = some h' ∧ MdO h' m cm ca lm y nu nr mm nm ∧ Same h h' m (m + 1) :=
  ⟨_, xpf_o M (k := 8) (by simp) _, get_set M _, (Same.refl _ _ _).set (by omega) (by omega) _⟩
theorem MdO.w9 (M : MdO h m cm ca lm ra nu nr mm nm) (y : Int32) : ∃ h', xpf h m 8 9 (.int y) = some h' ∧ MdO h' m cm ca lm ra y nr mm nm ∧ Same h h' m (m + 1) :=
  ⟨_, xpf_o M (k := 9) (by simp) _, get_set M _, (Same.refl _ _ _).set (by omega) (by omega) _⟩
theorem MdO.w10 (M : MdO h m cm ca lm ra nu nr mm nm) (y : Int32) : ∃ h', xpf h m 8 10 (.int y) = some h' ∧ MdO h' m cm ca lm ra nu y mm nm ∧ Same h h' m (m + 1) :=
  ⟨_, xpf_o M (k := 10) (by simp) _, get_set M _, (Same.refl _ _ _).set (by omega) (by omega) _⟩
theorem MdO.w13 (M : MdO h m cm ca lm ra nu nr mm nm) (y : Int32) : ∃ h', xpf h m 8 13 (.int y) = some h' ∧ MdO h' m cm ca lm ra nu nr y nm ∧ Same h h' m (m + 1) :=
  ⟨_, xpf_o M (k := 13) (by simp) _, get_set M _, (Same.refl _ _ _).set (by omega) (by omega) _⟩
theorem MdO.set (M : MdO h m cm ca lm ra nu nr mm nm) {t : Nat} (c : XC) (ht : t ≠ m) : MdO (h.set t c) m cm ca lm ra nu nr mm nm := by
  unfold MdO
  rw [get_ne _ ht]
  exact M
theorem md_rem {a : Nat} (ha : a < 5) : j_rem (nI (a + 1)) (nI 5) = nI ((a + 1) % 5) := by
  rcases (show a = 0 ∨ a = 1 ∨ a = 2 ∨ a = 3 ∨ a = 4 by omega) with e | e | e | e | e <;> subst e <;> decide
theorem md_rem4 {a : Nat} (ha : a < 5) : j_rem (nI (a + 5 - 1)) (nI 5) = nI ((a + 4) % 5) := by
  rcases (show a = 0 ∨ a = 1 ∨ a = 2 ∨ a = 3 ∨ a = 4 by omega) with e | e | e | e | e <;> subst e <;> decide
/-- the ring, one more kept at its place -/
theorem ring_keep {c : Nat → Int32} {f : Nat → Int32} {l' : List Rl} {s' : Sl} {ms : Mvs} (b1 : S.nx < 5) (b2 : S.sz ≤ 5) (hC : ∀ j, j < S.sz → RwL (fun k => c (113 * rgI S j + k)) (S.pb (rgI S j)).1 ∧ RwS (fun k => c (113 * rgI S j + k)) (S.pb (rgI S j)).1 (S.pb (rgI S j)).2) (L : RwL f S.l) (R : RwS f S.l S.s) :
    ∀ j, j < (kpS S l' s' ms).sz → RwL (fun k => cpN c (113 * S.nx) f 113 (113 * rgI (kpS S l' s' ms) j + k)) ((kpS S l' s' ms).pb (rgI (kpS S l' s' ms) j)).1 ∧ RwS (fun k => cpN c (113 * S.nx) f 113 (113 * rgI (kpS S l' s' ms) j + k)) ((kpS S l' s' ms).pb (rgI (kpS S l' s' ms) j)).1 ((kpS S l' s' ms).pb (rgI (kpS S l' s' ms) j)).2 := by
  intro j hj
  have hj : j < min (S.sz + 1) 5 := hj
  have hnx : (kpS S l' s' ms).nx = (S.nx + 1) % 5 := rfl
  have hpb : ∀ i, (kpS S l' s' ms).pb i = if i = S.nx then (S.l, S.s) else S.pb i := fun i => rfl
  rw [hpb]
  unfold rgI
  rw [hnx]
  by_cases q : j = 0
  · subst q
    have e : ((S.nx + 1) % 5 + 4 - 0) % 5 = S.nx := by omega
    rw [e, if_pos rfl]
    exact ⟨L.congr (fun k hk => cpN_in (by omega)), R.congr (fun k h1 h2 => cpN_in (by omega))⟩
  · have e : ((S.nx + 1) % 5 + 4 - j) % 5 = rgI S (j - 1) := by unfold rgI; omega
    have e2 : rgI S (j - 1) ≠ S.nx := by unfold rgI; omega
    obtain ⟨h1, h2⟩ := hC (j - 1) (by omega)
    rw [e, if_neg e2]
    exact ⟨h1.congr (fun k hk => cpN_out (by omega)), h2.congr (fun k h3 h4 => cpN_out (by omega))⟩
theorem q_remembers (K : Md h m S) : ∃ h' ra nu nr nm, xc XP d 140 [.ref m] h = some (none, h') ∧ Md h' m (kpS S S.l S.s S.ms) ∧ MdO h' m (nI (min (S.sz + 1) 5)) (nI ((S.nx + 1) % 5)) (nI S.tx.length) ra nu nr (nI S.ms.length) nm ∧ Same h h' m (m + 3) ∧ h'[m + 1]? = h[m + 1]? := by
  obtain ⟨⟨b1, b2, b3, b4, b5⟩, ⟨ra, nu, nr, nm, M⟩, ⟨f, A, L, R⟩, ⟨c, C, hC⟩, ⟨f3, F3⟩, ⟨g, G⟩, ⟨t, X, hX⟩, ⟨b, Bo⟩, ⟨T, T7⟩, ⟨F8, F9, M8, M9, hM⟩, ⟨F10, F11, M10, M11⟩, ⟨f12, M12⟩⟩ := K
  have hC2 := ring_keep (l' := S.l) (s' := S.s) (ms := S.ms) b1 b2 hC L R
  have key := loop_run (fun k => xe XP d 140 (2, [.ref m, .int (nI k)], [], h.set (m + 2) (ia 565 (cpN c (113 * S.nx) f k)))) 113 (by
    intro k hk
    show xe XP d 140 (2, _, _, _) = xe XP d 140 (2, _, _, _)
    have M' : MdO (h.set (m + 2) (ia 565 (cpN c (113 * S.nx) f k))) m (nI S.sz) (nI S.nx) (nI S.tx.length) ra nu nr (nI S.ms.length) nm := M.set _ (by omega)
    have A' : (h.set (m + 2) (ia 565 (cpN c (113 * S.nx) f k)))[m + 1]? = some (ia 113 f) := by rw [get_ne _ (by omega)]; exact A
    have C' : (h.set (m + 2) (ia 565 (cpN c (113 * S.nx) f k)))[m + 2]? = some (ia 565 (cpN c (113 * S.nx) f k)) := get_set C _
    have l1 := ra_ld A' k hk
    have w1 := xst_ia C' (by decide) (show 113 * S.nx + k < 565 by omega) (f k)
    rw [List.set_set, cpN_s] at w1
    rw [e_X8_remembers_2]
    simp (disch := first | assumption | omega) only [e_X8_remembers_3, e_X8_remembers_4, e_X8_remembers_5, e_X8_remembers_6, e_X8_remembers_7, e_X8_remembers_8, e_X8_remembers_9, e_X8_remembers_10, e_X8_remembers_11, e_X8_remembers_12, e_X8_remembers_13, e_X8_remembers_14, e_X8_remembers_15, e_X8_remembers_16, e_X8_remembers_17, e_X8_remembers_18, e_X8_remembers_19, nI_leI, if_f, M'.f1, M'.f3, M'.f0, Option.bind_some, pk_mul, nI_add, l1, w1]) 113 (Nat.le_refl _)
  have key : xe XP d 140 (2, [.ref m, .int (nI 0)], [], h.set (m + 2) (ia 565 (cpN c (113 * S.nx) f 0))) = xe XP d 140 (2, [.ref m, .int (nI 113)], [], h.set (m + 2) (ia 565 (cpN c (113 * S.nx) f 113))) := key
  rw [cpN_0, set_self C] at key
  generalize hh1 : h.set (m + 2) (ia 565 (cpN c (113 * S.nx) f 113)) = h1 at key
  have C1 : h1[m + 2]? = some (ia 565 (cpN c (113 * S.nx) f 113)) := by rw [← hh1]; exact get_set C _
  have s1 : Same h h1 (m + 2) (m + 3) := by rw [← hh1]; exact (Same.refl _ _ _).set (by omega) (by omega) _
  have M1 : MdO h1 m (nI S.sz) (nI S.nx) (nI S.tx.length) ra nu nr (nI S.ms.length) nm := by rw [← hh1]; exact M.set _ (by omega)
  obtain ⟨h2, e2, M2, s2⟩ := M1.w3 (nI ((S.nx + 1) % 5))
  obtain ⟨h3, e3, M3, s3⟩ := M2.w2 (nI (min (S.sz + 1) 5))
  have D : ∀ i, i ≠ m → i ≠ m + 2 → h3[i]? = h[i]? := fun i hi1 hi2 => by rw [s3.2 _ (by omega), s2.2 _ (by omega), s1.2 _ (by omega)]
  refine ⟨h3, ra, nu, nr, nm, ?_, ⟨⟨by show (S.nx + 1) % 5 < 5; omega, by show min (S.sz + 1) 5 ≤ 5; omega, b3, b4, b5⟩, ⟨ra, nu, nr, nm, M3⟩, ⟨f, by rw [D _ (by omega) (by omega)]; exact A, L, R⟩, ⟨_, by rw [s3.2 _ (by omega), s2.2 _ (by omega)]; exact C1, hC2⟩, ⟨f3, by rw [D _ (by omega) (by omega)]; exact F3⟩, ⟨g, by rw [D _ (by omega) (by omega)]; exact G⟩, ⟨t, by rw [D _ (by omega) (by omega)]; exact X, hX⟩, ⟨b, by rw [D _ (by omega) (by omega)]; exact Bo⟩, ⟨T, by rw [D _ (by omega) (by omega)]; exact T7⟩, ⟨F8, F9, by rw [D _ (by omega) (by omega)]; exact M8, by rw [D _ (by omega) (by omega)]; exact M9, hM⟩, ⟨F10, F11, by rw [D _ (by omega) (by omega)]; exact M10, by rw [D _ (by omega) (by omega)]; exact M11⟩, ⟨f12, by rw [D _ (by omega) (by omega)]; exact M12⟩⟩, M3, ((s1.weak (by omega) (by omega)).trans (s2.weak (by omega) (by omega))).trans (s3.weak (by omega) (by omega)), D _ (by omega) (by omega)⟩
  rw [n_X8_remembers]
  simp only [e_X8_remembers_0, e_X8_remembers_1, key]
  by_cases g5 : S.sz = 5
  · have e3' : xpf h2 m 8 2 (.int (nI (S.sz + 0))) = some h3 := by rw [show S.sz + 0 = min (S.sz + 1) 5 by omega]; exact e3
    simp (disch := first | assumption | omega) only [e_X8_remembers_2, e_X8_remembers_3, e_X8_remembers_4, e_X8_remembers_20, e_X8_remembers_21, e_X8_remembers_22, e_X8_remembers_23, e_X8_remembers_24, e_X8_remembers_25, e_X8_remembers_26, e_X8_remembers_27, e_X8_remembers_28, e_X8_remembers_29, e_X8_remembers_30, e_X8_remembers_31, e_X8_remembers_32, e_X8_remembers_33, e_X8_remembers_34, e_X8_remembers_37, e_X8_remembers_38, e_X8_remembers_39, e_X8_remembers_40, nI_leI, if_t, M1.f3, M2.f2, Option.bind_some, md_rem, show ¬ nI 5 = 0 by decide, if_f, if_false, e2, nI_add, e3']
  · have e3' : xpf h2 m 8 2 (.int (nI (S.sz + 1))) = some h3 := by rw [show S.sz + 1 = min (S.sz + 1) 5 by omega]; exact e3
    simp (disch := first | assumption | omega) only [e_X8_remembers_2, e_X8_remembers_3, e_X8_remembers_4, e_X8_remembers_20, e_X8_remembers_21, e_X8_remembers_22, e_X8_remembers_23, e_X8_remembers_24, e_X8_remembers_25, e_X8_remembers_26, e_X8_remembers_27, e_X8_remembers_28, e_X8_remembers_29, e_X8_remembers_30, e_X8_remembers_31, e_X8_remembers_32, e_X8_remembers_33, e_X8_remembers_34, e_X8_remembers_35, e_X8_remembers_36, e_X8_remembers_38, e_X8_remembers_39, e_X8_remembers_40, nI_leI, if_t, if_f, M1.f3, M2.f2, Option.bind_some, md_rem, show ¬ nI 5 = 0 by decide, if_false, e2, nI_add, e3']
theorem q_undoM (K : Md h m S) : ∃ h', xc XP (d + 14) 141 [.ref m] h = some (some (.int (aUndo S).1), h') ∧ Md h' m (aUndo S).2 ∧ Same h h' m (m + 13) := by
  have K0 := K
  obtain ⟨⟨b1, b2, b3, b4, b5⟩, ⟨ra, nu, nr, nm, M⟩, ⟨f, A, L, R⟩, ⟨c, C, hC⟩, ⟨f3, F3⟩, ⟨g, G⟩, ⟨t, X, hX⟩, ⟨b, Bo⟩, ⟨T, T7⟩, ⟨F8, F9, M8, M9, hM⟩, ⟨F10, F11, M10, M11⟩, ⟨f12, M12⟩⟩ := K
  unfold aUndo
  rw [n_X8_undo]
  by_cases hz : S.sz = 0
  · rw [if_pos hz]
    refine ⟨h, ?_, K0, Same.refl _ _ _⟩
    have f2 := M.f2
    rw [hz] at f2
    simp (disch := first | assumption | omega) only [e_X8_undo_0, e_X8_undo_1, e_X8_undo_2, e_X8_undo_3, e_X8_undo_4, f2, Option.bind_some, not_true, if_false]
  · rw [if_neg hz]
    have hne : ¬ nI S.sz = nI 0 := by rw [nI_eq (by omega) (by omega)]; exact hz
    obtain ⟨h1, e1, M1, s1⟩ := M.w3 (nI ((S.nx + 4) % 5))
    obtain ⟨h2, e2, M2, s2⟩ := M1.w2 (nI (S.sz - 1))
    have hx5 : (S.nx + 4) % 5 < 5 := by omega
    have C2 : h2[m + 2]? = some (ia 565 c) := by rw [s2.2 _ (by omega), s1.2 _ (by omega)]; exact C
    have A2 : h2[m + 1]? = some (ia 113 f) := by rw [s2.2 _ (by omega), s1.2 _ (by omega)]; exact A
    generalize hN : (S.nx + 4) % 5 = N at hx5 e1 M1 M2
    have key := loop_run (fun k => xe XP (d + 14) 141 (23, [.ref m, .int (nI k)], [], h2.set (m + 1) (ia 113 (cpN f 0 (fun k => c (113 * N + k)) k)))) 113 (by
      intro k hk
      show xe XP (d + 14) 141 (23, _, _, _) = xe XP (d + 14) 141 (23, _, _, _)
      have M' : MdO (h2.set (m + 1) (ia 113 (cpN f 0 (fun k => c (113 * N + k)) k))) m (nI (S.sz - 1)) (nI N) (nI S.tx.length) ra nu nr (nI S.ms.length) nm := M2.set _ (by omega)
      have C' : (h2.set (m + 1) (ia 113 (cpN f 0 (fun k => c (113 * N + k)) k)))[m + 2]? = some (ia 565 c) := by rw [get_ne _ (by omega)]; exact C2
      have A' : (h2.set (m + 1) (ia 113 (cpN f 0 (fun k => c (113 * N + k)) k)))[m + 1]? = some (ia 113 (cpN f 0 (fun k => c (113 * N + k)) k)) := get_set A2 _
      have l1 := xld_ia C' (by decide) (show 113 * N + k < 565 by omega)
      have w1 := xst_ia A' (by decide) (show k < 113 by omega) (c (113 * N + k))
      have hs := cpN_s f 0 (fun k => c (113 * N + k)) k
      rw [Nat.zero_add] at hs
      rw [List.set_set, hs] at w1
      rw [e_X8_undo_23]
      simp (disch := first | assumption | omega) only [e_X8_undo_24, e_X8_undo_25, e_X8_undo_26, e_X8_undo_27, e_X8_undo_28, e_X8_undo_29, e_X8_undo_30, e_X8_undo_31, e_X8_undo_32, e_X8_undo_33, e_X8_undo_34, e_X8_undo_35, e_X8_undo_36, e_X8_undo_37, e_X8_undo_38, e_X8_undo_39, e_X8_undo_40, nI_leI, if_f, M'.f1, M'.f3, M'.f0, Option.bind_some, pk_mul, nI_add, l1, w1]) 113 (Nat.le_refl _)
    have key : xe XP (d + 14) 141 (23, [.ref m, .int (nI 0)], [], h2.set (m + 1) (ia 113 (cpN f 0 (fun k => c (113 * N + k)) 0))) = xe XP (d + 14) 141 (23, [.ref m, .int (nI 113)], [], h2.set (m + 1) (ia 113 (cpN f 0 (fun k => c (113 * N + k)) 113))) := key
    rw [cpN_0, set_self A2] at key
    generalize hh3 : h2.set (m + 1) (ia 113 (cpN f 0 (fun k => c (113 * N + k)) 113)) = h3 at key
    have A3 : h3[m + 1]? = some (ia 113 (cpN f 0 (fun k => c (113 * N + k)) 113)) := by rw [← hh3]; exact get_set A2 _
    have s3 : Same h2 h3 (m + 1) (m + 2) := by rw [← hh3]; exact (Same.refl _ _ _).set (by omega) (by omega) _
    have M3 : MdO h3 m (nI (S.sz - 1)) (nI N) (nI S.tx.length) ra nu nr (nI S.ms.length) nm := by rw [← hh3]; exact M2.set _ (by omega)
    have D : ∀ i, i ≠ m → i ≠ m + 1 → h3[i]? = h[i]? := fun i hi1 hi2 => by rw [s3.2 _ (by omega), s2.2 _ (by omega), s1.2 _ (by omega)]
    have h0 := hC 0 (by omega)
    have e0 : rgI S 0 = N := by unfold rgI; omega
    rw [e0] at h0
    refine ⟨h3, ?_, ⟨⟨hx5, by show S.sz - 1 ≤ 5; omega, b3, b4, b5⟩, ⟨ra, nu, nr, nm, M3⟩, ⟨_, A3, h0.1.congr (fun k hk => ?_), h0.2.congr (fun k h1 h2 => ?_)⟩, ⟨c, by rw [D _ (by omega) (by omega)]; exact C, ?_⟩, ⟨f3, by rw [D _ (by omega) (by omega)]; exact F3⟩, ⟨g, by rw [D _ (by omega) (by omega)]; exact G⟩, ⟨t, by rw [D _ (by omega) (by omega)]; exact X, hX⟩, ⟨b, by rw [D _ (by omega) (by omega)]; exact Bo⟩, ⟨T, by rw [D _ (by omega) (by omega)]; exact T7⟩, ⟨F8, F9, by rw [D _ (by omega) (by omega)]; exact M8, by rw [D _ (by omega) (by omega)]; exact M9, hM⟩, ⟨F10, F11, by rw [D _ (by omega) (by omega)]; exact M10, by rw [D _ (by omega) (by omega)]; exact M11⟩, ⟨f12, by rw [D _ (by omega) (by omega)]; exact M12⟩⟩, ((s1.weak (by omega) (by omega)).trans (s2.weak (by omega) (by omega))).trans (s3.weak (by omega) (by omega))⟩
    · have hr := md_rem4 b1
      rw [hN] at hr
      simp (disch := first | assumption | omega) only [e_X8_undo_0, e_X8_undo_1, e_X8_undo_2, e_X8_undo_3, e_X8_undo_4, e_X8_undo_5, e_X8_undo_6, e_X8_undo_7, e_X8_undo_8, e_X8_undo_9, e_X8_undo_10, e_X8_undo_11, e_X8_undo_12, e_X8_undo_13, e_X8_undo_14, e_X8_undo_15, e_X8_undo_16, e_X8_undo_17, e_X8_undo_18, e_X8_undo_19, e_X8_undo_20, e_X8_undo_21, e_X8_undo_22, M.f2, M.f3, M1.f2, Option.bind_some, hne, not_false_eq_true, if_true, nI_add, pk_sub, hr, show ¬ nI 5 = 0 by decide, if_f, if_false, e1, e2, key]
      simp (disch := first | assumption | omega) only [e_X8_undo_23, e_X8_undo_24, e_X8_undo_25, e_X8_undo_41, e_X8_undo_42, e_X8_undo_43, nI_leI, if_t, M3.f2, Option.bind_some]
    · have := cpN_in (g := f) (o := 0) (s := fun k => c (113 * N + k)) (k := 113) (i := k) (by omega)
      rw [Nat.zero_add] at this
      exact this
    · have := cpN_in (g := f) (o := 0) (s := fun k => c (113 * N + k)) (k := 113) (i := k) (by omega)
      rw [Nat.zero_add] at this
      exact this
    · intro j hj
      have hj : j < S.sz - 1 := hj
      have e : rgI (mkS S.tx (S.pb N).1 (S.pb N).2 S.ms N (S.sz - 1) S.pb) j = rgI S (j + 1) := by
        show (N + 4 - j) % 5 = (S.nx + 4 - (j + 1)) % 5
        omega
      rw [e]
      exact hC (j + 1) (by omega)
end Md23R
