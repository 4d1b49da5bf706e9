/-! THE CLASS IS MADE -/
def Gro (h h' : XH) : Prop := ∀ (i : Nat) (c : XC), h[i]? = some c → h'[i]? = some c
theorem Gro.app (p L : XH) : Gro p (p ++ L) := fun i c e => by rw [List.getElem?_append_left (List.getElem?_eq_some_iff.mp e).1]; exact e
section GroR
variable {h h' : XH} {c : Nat} {S : CS}
theorem Tab.gro {t : Nat} {R P C V : Nat → Int32} (T : Tab h t R P C V) (g : Gro h h') : Tab h' t R P C V := ⟨g _ _ T.1, g _ _ T.2.1, g _ _ T.2.2.1, g _ _ T.2.2.2.1, g _ _ T.2.2.2.2⟩
theorem Lst.gro {r : Nat} {l : List Rl} (L : Lst h r l) (g : Gro h h') : Lst h' r l := by
  obtain ⟨a, b, e, K, H, Hc, Hv, F, La, A, e1, e2, e3, e4, e5, e6, e7, z⟩ := L
  exact ⟨a, b, g _ _ e, K, H, Hc, Hv, F, La, A, g _ _ e1, g _ _ e2, g _ _ e3, g _ _ e4, g _ _ e5, g _ _ e6, g _ _ e7, z⟩
theorem Bd.gro {b : Nat} {l : List Rl} {R P C V : Nat → Int32} (B : Bd h b l R P C V) (g : Gro h h') : Bd h' b l R P C V := ⟨g _ _ B.1, B.2.1.gro g, B.2.2.gro g⟩
theorem Brd.gro {b : Nat} {l : List Rl} {σ : Sl} (B : Brd h b l σ) (g : Gro h h') : Brd h' b l σ := by
  obtain ⟨R, P, C, V, B, z⟩ := B
  exact ⟨R, P, C, V, B.gro g, z⟩
theorem Bdx.gro {b : Nat} (B : Bdx h b) (g : Gro h h') : Bdx h' b := by
  obtain ⟨l, R, P, C, V, B⟩ := B
  exact ⟨l, R, P, C, V, B.gro g⟩
theorem Txt.gro {x : Nat} {tx : List Nat} (T : Txt h x tx) (g : Gro h h') : Txt h' x tx := by
  obtain ⟨a, b, e, f, e2, z⟩ := T
  exact ⟨a, b, g _ _ e, f, g _ _ e2, z⟩
theorem Log.gro {x : Nat} {ms : Mvs} (T : Log h x ms) (g : Gro h h') : Log h' x ms := by
  obtain ⟨a, e, F, T, e2, e3, z⟩ := T
  exact ⟨a, g _ _ e, F, T, g _ _ e2, g _ _ e3, z⟩
theorem Pst.gro {p nx sz : Nat} {pb : Nat → Bst} (Q : Pst h p nx sz pb) (g : Gro h h') : Pst h' p nx sz pb := ⟨Q.1, Q.2.1, g _ _ Q.2.2.1, g _ _ Q.2.2.2.1, fun i hi => (Q.2.2.2.2 i hi).gro g⟩
theorem Rdx.gro {z : Nat} (R : Rdx h z) (g : Gro h h') : Rdx h' z := by
  obtain ⟨v0, v1, v2, v3, v4, v5, e⟩ := R
  exact ⟨v0, v1, v2, v3, v4, v5, g _ _ e⟩
theorem Cr.gro (K : Cr h c S) (g : Gro h h') : Cr h' c S := by
  obtain ⟨ms, N⟩ := K.N
  exact ⟨g _ _ K.O, K.X.gro g, K.Z.gro g, K.B.gro g, K.T.gro g, K.M.gro g, ⟨ms, N.gro g⟩, K.Q.gro g⟩
theorem Cr.same {lo hi : Nat} (K : Cr h c S) (s : Same h h' lo hi) (hd : c + 110 ≤ lo ∨ hi ≤ c) : Cr h' c S := by
  obtain ⟨ms, N⟩ := K.N
  exact ⟨K.O.same s (by omega), K.X.same s (by omega), K.Z.same s (by omega), K.B.same s (by omega), K.T.same s (by omega), K.M.same s (by omega), ⟨ms, N.same s (by omega)⟩, K.Q.same s (by omega)⟩
theorem Md.same {m lo hi : Nat} (K : Md h m S) (s : Same h h' lo hi) (hd : m + 13 ≤ lo ∨ hi ≤ m) : Md h' m S := by
  obtain ⟨b0, ⟨ra, nu, nr, nm, M⟩, ⟨f, A, L, R⟩, ⟨c, C, hC⟩, ⟨f3, F3⟩, ⟨g, G⟩, ⟨t, X, hX⟩, ⟨b, Bo⟩, ⟨T, T7⟩, ⟨F8, F9, M8, M9, hM⟩, ⟨F10, F11, M10, M11⟩, ⟨f12, M12⟩⟩ := K
  exact ⟨b0, ⟨ra, nu, nr, nm, by unfold MdO; rw [s.2 _ (by omega)]; exact M⟩, ⟨f, by rw [s.2 _ (by omega)]; exact A, L, R⟩, ⟨c, by rw [s.2 _ (by omega)]; exact C, hC⟩, ⟨f3, by rw [s.2 _ (by omega)]; exact F3⟩, ⟨g, by rw [s.2 _ (by omega)]; exact G⟩, ⟨t, by rw [s.2 _ (by omega)]; exact X, hX⟩, ⟨b, by rw [s.2 _ (by omega)]; exact Bo⟩, ⟨T, by rw [s.2 _ (by omega)]; exact T7⟩, ⟨F8, F9, by rw [s.2 _ (by omega)]; exact M8, by rw [s.2 _ (by omega)]; exact M9, hM⟩, ⟨F10, F11, by rw [s.2 _ (by omega)]; exact M10, by rw [s.2 _ (by omega)]; exact M11⟩, ⟨f12, by rw [s.2 _ (by omega)]; exact M12⟩⟩
end GroR
/-- the first text -/
def fx : List Nat := [49, 48, 44, 49, 42, 48, 44, 51, 45, 49, 50, 44, 49, 59, 50, 48, 44, 42, 42, 42, 44, 48, 45, 55, 44, 50, 59, 53, 44, 48, 49, 42, 44, 54, 45, 54, 44, 51, 59, 51, 48, 44, 49, 42, 42, 44, 56, 45, 49, 53, 44, 52, 59]
def l1 : List Rl := [(10, 120, 3, 12, 1), (20, 222, 0, 7, 2), (5, 12, 6, 6, 3), (30, 122, 8, 15, 4)]
theorem fx_c : ∀ j, j < 53 → j_i2c (xtf j &&& nI 255) = nI (fx.getD j 0) ∧ rkOf (some .char) (j_i2c (xtf j &&& nI 255)) = true := by decide
theorem fx_lt : ∀ j, j < 53 → fx.getD j 0 < 1000 := by decide
theorem fx_take : ∀ j, j < 53 → fx.take (j + 1) = fx.take j ++ [fx.getD j 0] := by decide
theorem fx_read : rdS fx 17 0 [] = (none, l1) := by rfl
section StrR
variable {h : XH} {d : Nat}
theorem q_coder (K1 : h[1]? = some (.inl (9, [.ref 2, .int 0]))) : xc XP d 186 [.ref 1] h = some (some (.int 0), h) := by
  rw [n_J0_coder_7d493]
  simp (disch := first | assumption | omega) only [e_J0_coder_7d493_0, e_J0_coder_7d493_1, e_J0_coder_7d493_2, e_J0_coder_7d493_3, e_J0_coder_7d493_4, e_J0_coder_7d493_5, e_J0_coder_7d493_6, show ¬ (1 : Int32) = nI 0 by decide, if_false, xgf_o K1, List.getElem?_cons_succ, List.getElem?_cons_zero, Option.bind_some, show rkOf (some .byte) 0 = true by decide, if_true]
theorem q_slen (K1 : h[1]? = some (.inl (9, [.ref 2, .int 0]))) (K2 : h[2]? = some (.inr (.inl (4, 53, xtf)))) : xc XP (d + 1) 184 [.ref 1] h = some (some (.int (nI 53)), h) := by
  have c9 : xcls h (.ref 1) = some 9 := xcls_o K1
  have e : xar h 2 4 = some (53, xtf) := by unfold xar; rw [K2]; rfl
  rw [n_J0_length_8abf5]
  simp (disch := first | assumption | omega) only [e_J0_length_8abf5_0, e_J0_length_8abf5_1, e_J0_length_8abf5_2, e_J0_length_8abf5_3, e_J0_length_8abf5_4, e_J0_length_8abf5_5, e_J0_length_8abf5_6, xgf_o K1, List.getElem?_cons_succ, List.getElem?_cons_zero, Option.bind_some, e, q_coder K1, xbk_i, show j_shr (nI 53) 0 = nI 53 by decide]
theorem q_chkI {i : Nat} (hi : i < 53) : xc XP (d + 1) 188 [.int (nI i), .int (nI 53)] h = some (none, h) := by
  have e : xc XP d 191 [.int (nI i), .int (nI 53), .double 0] h = some (some (.int (nI i)), h) := by
    rw [n_J3_checkIndex_8e157]
    simp (disch := first | assumption | omega) only [e_J3_checkIndex_8e157_0, e_J3_checkIndex_8e157_1, e_J3_checkIndex_8e157_2, e_J3_checkIndex_8e157_3, e_J3_checkIndex_8e157_4, e_J3_checkIndex_8e157_10, e_J3_checkIndex_8e157_11, nI_lt0, if_f, nI_ltI, if_t, if_false]
  rw [n_J0_checkIndex_df160]
  simp (disch := first | assumption | omega) only [e_J0_checkIndex_df160_0, e_J0_checkIndex_df160_1, e_J0_checkIndex_df160_2, e_J0_checkIndex_df160_3, e_J0_checkIndex_df160_4, e_J0_checkIndex_df160_5, e, xbk_i]
theorem q_chr (K1 : h[1]? = some (.inl (9, [.ref 2, .int 0]))) (K2 : h[2]? = some (.inr (.inl (4, 53, xtf)))) {i : Nat} (hi : i < 53) : xc XP (d + 3) 185 [.ref 1, .int (nI i)] h = some (some (.int (nI (fx.getD i 0))), h) := by
  have c9 : xcls h (.ref 1) = some 9 := xcls_o K1
  have e : xar h 2 4 = some (53, xtf) := by unfold xar; rw [K2]; rfl
  have el : xld h 2 4 (nI i) = some (xtf i) := by
    unfold xld
    rw [e]
    simp only [Option.bind_some]
    rw [if_pos (xin_nI hi (by decide)), nI_clamp (by omega)]
  obtain ⟨f1, f2⟩ := fx_c i hi
  rw [f1] at f2
  have e1 : xc XP (d + 2) 189 [.ref 2, .int (nI i)] h = some (some (.int (nI (fx.getD i 0))), h) := by
    rw [n_J1_charAt_3b067]
    simp (disch := first | assumption | omega) only [e_J1_charAt_3b067_0, e_J1_charAt_3b067_1, e_J1_charAt_3b067_2, e_J1_charAt_3b067_3, e_J1_charAt_3b067_4, e_J1_charAt_3b067_5, e_J1_charAt_3b067_6, e_J1_charAt_3b067_7, e_J1_charAt_3b067_8, e_J1_charAt_3b067_9, e_J1_charAt_3b067_10, e, Option.bind_some, q_chkI hi, xbk_v, el, f1, f2, if_true]
  have e2 : xc XP (d + 2) 187 [.ref 1] h = some (some (.int (nI 1)), h) := by
    rw [n_J0_isLatin1_aae02]
    simp (disch := first | assumption | omega) only [e_J0_isLatin1_aae02_0, e_J0_isLatin1_aae02_1, e_J0_isLatin1_aae02_2, e_J0_isLatin1_aae02_3, e_J0_isLatin1_aae02_4, e_J0_isLatin1_aae02_5, e_J0_isLatin1_aae02_6, e_J0_isLatin1_aae02_7, e_J0_isLatin1_aae02_8, show ¬ (1 : Int32) = nI 0 by decide, if_false, xgf_o K1, List.getElem?_cons_succ, List.getElem?_cons_zero, Option.bind_some, show ¬ ¬ (0 : Int32) = nI 0 by decide, rk_1, if_true]
  rw [n_J0_charAt_5068e]
  simp (disch := first | assumption | omega) only [e_J0_charAt_5068e_0, e_J0_charAt_5068e_1, e_J0_charAt_5068e_2, e_J0_charAt_5068e_3, e_J0_charAt_5068e_4, e_J0_charAt_5068e_5, e_J0_charAt_5068e_6, e_J0_charAt_5068e_7, e2, xbk_i, show ¬ nI 1 = nI 0 by decide, if_false, xgf_o K1, List.getElem?_cons_zero, Option.bind_some, e1, f2, if_true]
theorem text_loop {l : List Rl} {σ : Sl} {ms : Mvs} {nx sz : Nat} {pb : Nat → Bst} : ∀ (n i : Nat) (h : XH), i + n = 53 → Cr h 3 (mkS (fx.take i) l σ ms nx sz pb) → h[1]? = some (.inl (9, [.ref 2, .int 0])) → h[2]? = some (.inr (.inl (4, 53, xtf))) →
    ∃ h', xe XP (d + 14) 77 (39, [.ref 3, .int (nI i)], [], h) = xe XP (d + 14) 77 (52, [.ref 3, .int (nI 53)], [], h') ∧ Cr h' 3 (mkS fx l σ ms nx sz pb) ∧ Same h h' 3 113 := by
  intro n
  induction n with
  | zero =>
    intro i h hi K K1 K2
    have hi : i = 53 := by omega
    subst hi
    have c9 : xcls h (.ref 1) = some 9 := xcls_o K1
    refine ⟨h, ?_, K, Same.refl _ _ _⟩
    simp (disch := first | assumption | omega) only [e_X7_init_39, e_X7_init_40, e_X7_init_41, e_X7_init_42, q_slen K1 K2, xbk_i, nI_leI, if_t]
  | succ n ih =>
    intro i h hi K K1 K2
    have c9 : xcls h (.ref 1) = some 9 := xcls_o K1
    have c6 := K.X.c
    have hlen : (fx.take i).length = i := by rw [List.length_take]; show min i 53 = i; omega
    have O := K.O
    obtain ⟨h1, e1, X1, s1⟩ := q_appendT K.X (d := d + 13) (c := fx.getD i 0) (fx_lt i (by omega)) (by show (fx.take i).length < 200; omega)
    have X1 : Txt h1 (3 + 1) (fx.take i ++ [fx.getD i 0]) := X1
    rw [← fx_take i (by omega)] at X1
    have K1' : Cr h1 3 (mkS (fx.take (i + 1)) l σ ms nx sz pb) := by
      obtain ⟨ms0, N⟩ := K.N
      exact ⟨O.same s1 (by omega), X1, K.Z.same s1 (by omega), K.B.same s1 (by omega), K.T.same s1 (by omega), K.M.same s1 (by omega), ⟨ms0, N.same s1 (by omega)⟩, K.Q.same s1 (by omega)⟩
    obtain ⟨h2, e2, K2', s2⟩ := ih (i + 1) h1 (by omega) K1' (by rw [s1.2 _ (by omega)]; exact K1) (by rw [s1.2 _ (by omega)]; exact K2)
    refine ⟨h2, ?_, K2', (s1.weak (by omega) (by omega)).trans s2⟩
    have f0 : xgf h 3 7 0 = some (.ref 4) := O.f0
    have e1 : xc XP (d + 13) 75 [.ref 4, .int (nI (fx.getD i 0))] h = some (some (.int (nI 1)), h1) := e1
    have c6 : xcls h (.ref 4) = some 6 := c6
    rw [← e2, e_X7_init_39]
    simp (disch := first | assumption | omega) only [e_X7_init_40, e_X7_init_41, e_X7_init_42, e_X7_init_43, e_X7_init_44, e_X7_init_45, e_X7_init_46, e_X7_init_47, e_X7_init_48, e_X7_init_49, e_X7_init_50, e_X7_init_51, q_slen K1 K2, xbk_i, nI_leI, if_f, f0, Option.bind_some, q_chr K1 K2, e1, nI_add]
end StrR
