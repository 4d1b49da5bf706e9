/-! THE MODEL: a row comes in -/
def NLg (h : XH) (m : Nat) (ms : Mvs) : Prop := ms.length ≤ 48 ∧ ∃ F T : Nat → Int32, h[m + 10]? = some (ia 48 F) ∧ h[m + 11]? = some (ia 48 T) ∧ ∀ j q, ms[j]? = some q → F j = nI q.1 ∧ T j = nI q.2
def CT (m i : Nat) : Prop := i = m ∨ i = m + 1 ∨ i = m + 4 ∨ i = m + 7 ∨ i = m + 10 ∨ i = m + 11
section Md7R
variable {h : XH} {m : Nat} {cm ca lm ra nu nr mm nm : Int32} {l : List Rl} {σ : Sl} {d : Nat} {w : Nat × Nat}
theorem NLg.dif {h' : XH} {ms : Mvs} {S : Nat → Prop} (N : NLg h m ms) (D : Dif h h' S) (h1 : ¬ S (m + 10)) (h2 : ¬ S (m + 11)) : NLg h' m ms := by
  obtain ⟨n1, F, T, n2, n3, n4⟩ := N
  exact ⟨n1, F, T, by rw [D.2 _ h1]; exact n2, by rw [D.2 _ h2]; exact n3, n4⟩
theorem MdO.w16 (M : MdO h m cm ca lm ra nu nr mm nm) (y : Int32) : ∃ h', xpf h m 8 16 (.int y) = some h' ∧ MdO h' m cm ca lm ra nu nr mm y ∧ Same h h' m (m + 1) :=
  ⟨_, xpf_o M (k := 16) (by simp) _, get_set M _, (Same.refl _ _ _).set (by omega) (by omega) _⟩
theorem Mb.setO {h' : XH} {cm' ca' lm' ra' nu' nr' mm' nm' : Int32} (B : Mb h m cm ca lm ra nu nr mm nm l σ) (M : MdO h' m cm' ca' lm' ra' nu' nr' mm' nm') (s : Same h h' m (m + 1)) : Mb h' m cm' ca' lm' ra' nu' nr' mm' nm' l σ := by
  obtain ⟨-, f, g, A, L, R, G, K⟩ := B
  exact ⟨M, f, g, by rw [s.2 _ (by omega)]; exact A, L, R, by rw [s.2 _ (by omega)]; exact G, K⟩
theorem NLg.app {ms : Mvs} {a b : Nat} (N : NLg h m ms) (hl : ms.length < 48) : ∃ h1 h2, xst h (m + 10) 0 (nI ms.length) (nI a) = some h1 ∧ xst h1 (m + 11) 0 (nI ms.length) (nI b) = some h2 ∧ NLg h2 m (ms ++ [(a, b)]) ∧ Same h h1 (m + 10) (m + 12) ∧ Same h1 h2 (m + 10) (m + 12) := by
  obtain ⟨n1, F, T, n2, n3, n4⟩ := N
  obtain ⟨h1, e1, A1, s1⟩ := ia_w n2 (by decide) hl (nI a)
  have n3' : h1[m + 11]? = some (ia 48 T) := by rw [s1.2 _ (by omega)]; exact n3
  obtain ⟨h2, e2, A2, s2⟩ := ia_w n3' (by decide) hl (nI b)
  refine ⟨h1, h2, e1, e2, ⟨by simp; omega, _, _, by rw [s2.2 _ (by omega)]; exact A1, A2, fun j q hq => ?_⟩, s1.weak (by omega) (by omega), s2.weak (by omega) (by omega)⟩
  by_cases g : j < ms.length
  · rw [List.getElem?_append_left g] at hq
    rw [upd_n (by omega), upd_n (by omega)]
    exact n4 j q hq
  · have hj : j < (ms ++ [(a, b)]).length := (List.getElem?_eq_some_iff.mp hq).1
    simp at hj
    have hj : j = ms.length := by omega
    subst hj
    simp at hq
    subst hq
    exact ⟨upd_s, upd_s⟩
theorem cr_log {a1 a2 a3 a5 : Value} {T : Nat → Int32} {mv : Mvs} (hT : ∀ j x, mv[j]? = some x → T j = nI (16 * x.1 + x.2)) (hlt : ∀ x ∈ mv, x.1 < 16 ∧ x.2 < 16) (h3 : mv.length ≤ 3) (ms : Mvs) (h45 : ms.length + mv.length ≤ 48) :
    ∀ (rest dn : Mvs) (h : XH), mv = dn ++ rest → Mb h m cm ca lm ra nu nr mm (nI (ms ++ dn).length) l σ → h[m + 7]? = some (ia 3 T) → NLg h m (ms ++ dn) →
    ∃ h', xe XP (d + 4) 147 (22, [.ref m, a1, a2, a3, .int (nI mv.length), a5, .int (nI dn.length)], [], h) = xe XP (d + 4) 147 (55, [.ref m, a1, a2, a3, .int (nI mv.length), a5, .int (nI mv.length)], [], h') ∧ Mb h' m cm ca lm ra nu nr mm (nI (ms ++ mv).length) l σ ∧ h'[m + 7]? = some (ia 3 T) ∧ NLg h' m (ms ++ mv) ∧ Dif h h' (CT m) := by
  intro rest
  induction rest with
  | nil =>
    intro dn h hm B hT7 N
    rw [List.append_nil] at hm
    subst hm
    refine ⟨h, ?_, B, hT7, N, Dif.refl _ _⟩
    simp (disch := first | assumption | omega) only [e_X8_comesRow_22, e_X8_comesRow_23, e_X8_comesRow_24, nI_leI, if_t, Nat.le_refl, if_true]
  | cons x rest ih =>
    intro dn h hm B hT7 N
    have hlen : mv.length = dn.length + (rest.length + 1) := by rw [hm]; simp
    have hget : mv[dn.length]? = some x := by rw [hm]; simp
    have hTk := hT _ _ hget
    have hx := hlt x (List.mem_of_getElem? hget)
    have M := B.1
    have ld : xld h (m + 7) 0 (nI dn.length) = some (nI (16 * x.1 + x.2)) := by rw [xld_ia hT7 (by decide) (by omega), hTk]
    have hN : (ms ++ dn).length < 48 := by simp; omega
    obtain ⟨h1, h2, e1, e2, N2, s1, s2⟩ := N.app (a := x.1) (b := x.2) hN
    have B1 := B.dif (s1.dif (S := fun i => m + 10 ≤ i ∧ i < m + 12) (fun i h1 h2 => ⟨h1, h2⟩)) (by omega) (by omega) (by omega)
    have M1 := B1.1
    have T1 : h1[m + 7]? = some (ia 3 T) := by rw [s1.2 _ (by omega)]; exact hT7
    have ld1 : xld h1 (m + 7) 0 (nI dn.length) = some (nI (16 * x.1 + x.2)) := by rw [xld_ia T1 (by decide) (by omega), hTk]
    have B2 := B1.dif (s2.dif (S := fun i => m + 10 ≤ i ∧ i < m + 12) (fun i h1 h2 => ⟨h1, h2⟩)) (by omega) (by omega) (by omega)
    have M2 := B2.1
    have T2 : h2[m + 7]? = some (ia 3 T) := by rw [s2.2 _ (by omega)]; exact T1
    obtain ⟨h3, e3, M3, s3⟩ := M2.w16 (nI ((ms ++ dn).length + 1))
    have B3 := B2.setO M3 s3
    have T3 : h3[m + 7]? = some (ia 3 T) := by rw [s3.2 _ (by omega)]; exact T2
    have N3 := N2.dif (s3.dif (S := fun i => i = m) (fun i h1 h2 => by omega)) (by omega) (by omega)
    rw [show (ms ++ dn).length + 1 = (ms ++ (dn ++ [x])).length by simp; omega] at B3 e3
    rw [show ms ++ dn ++ [(x.1, x.2)] = ms ++ (dn ++ [x]) by simp] at N3
    obtain ⟨h4, e4, B4, T4, N4, d4⟩ := ih (dn ++ [x]) h3 (by rw [hm]; simp) B3 T3 N3
    have dv : (16 * x.1 + x.2) / 16 = x.1 := by omega
    have md : (16 * x.1 + x.2) % 16 = x.2 := by omega
    refine ⟨h4, ?_, B4, T4, N4, (((s1.dif (fun i h1 h2 => by unfold CT; omega)).trans (s2.dif (fun i h1 h2 => by unfold CT; omega))).trans (s3.dif (fun i h1 h2 => by unfold CT; omega))).trans d4⟩
    rw [show (dn ++ [x]).length = dn.length + 1 by simp] at e4
    have hl2 : (ms ++ (dn ++ [x])).length = (ms ++ dn).length + 1 := by simp; omega
    rw [hl2] at e3
    rw [e_X8_comesRow_22]
    simp (disch := first | assumption | omega) only [e_X8_comesRow_23, e_X8_comesRow_24, e_X8_comesRow_25, e_X8_comesRow_26, e_X8_comesRow_27, e_X8_comesRow_28, e_X8_comesRow_29, e_X8_comesRow_30, e_X8_comesRow_31, e_X8_comesRow_32, e_X8_comesRow_33, e_X8_comesRow_34, e_X8_comesRow_35, e_X8_comesRow_36, e_X8_comesRow_37, e_X8_comesRow_38, e_X8_comesRow_39, e_X8_comesRow_40, e_X8_comesRow_41, e_X8_comesRow_42, e_X8_comesRow_43, e_X8_comesRow_44, e_X8_comesRow_45, e_X8_comesRow_46, e_X8_comesRow_47, e_X8_comesRow_48, e_X8_comesRow_49, e_X8_comesRow_50, e_X8_comesRow_51, e_X8_comesRow_52, e_X8_comesRow_53, e_X8_comesRow_54, nI_leI, if_f, M.f17, M.f16, M.f12, M1.f18, M1.f16, M1.f12, M2.f16, Option.bind_some, ld, ld1, jdiv, jrem, dv, md, e1, e2, nI_add, e3, e4]
end Md7R
