/-! THE MODEL: a move is done -/
theorem ia_w {h : XH} {a n : Nat} {f : Nat → Int32} (e : h[a]? = some (ia n f)) (hn : n < 2 ^ 31) {k : Nat} (hk : k < n) (x : Int32) : ∃ h', xst h a 0 (nI k) x = some h' ∧ h'[a]? = some (ia n (upd f k x)) ∧ Same h h' a (a + 1) :=
  ⟨_, xst_ia e hn hk x, get_set e _, (Same.refl _ _ _).set (by omega) (by omega) _⟩
theorem RwL.congr {f f' : Nat → Int32} {l : List Rl} (L : RwL f l) (h : ∀ k, k < 81 → f' k = f k) : RwL f' l := by
  obtain ⟨l1, l2, l3, l4⟩ := L
  refine ⟨l1, l2, by rw [h 0 (by omega)]; exact l3, fun j hj => ?_⟩
  rw [h (1 + j) (by omega), h (17 + j) (by omega), h (33 + j) (by omega), h (49 + j) (by omega), h (65 + j) (by omega)]
  exact l4 j hj
theorem MdO.dif {h h' : XH} {m : Nat} {cm ca lm ra nu nr mm nm : Int32} {S : Nat → Prop} (M : MdO h m cm ca lm ra nu nr mm nm) (D : Dif h h' S) (hS : ¬ S m) : MdO h' m cm ca lm ra nu nr mm nm := by
  unfold MdO
  rw [D.2 _ hS]
  exact M
section Md4R
variable {h : XH} {m : Nat} {cm ca lm ra nu nr mm nm : Int32} {l : List Rl} {σ : Sl} {d : Nat}
theorem Mb.dif {h' : XH} {S : Nat → Prop} (B : Mb h m cm ca lm ra nu nr mm nm l σ) (D : Dif h h' S) (h0 : ¬ S m) (h1 : ¬ S (m + 1)) (h4 : ¬ S (m + 4)) : Mb h' m cm ca lm ra nu nr mm nm l σ := by
  obtain ⟨M, f, g, A, L, R, G, K⟩ := B
  exact ⟨M.dif D h0, f, g, by rw [D.2 _ h1]; exact A, L, R, by rw [D.2 _ h4]; exact G, K⟩
theorem q_movesM (B : Mb h m cm ca lm ra nu nr mm nm l σ) {a b : Nat} {x : Nat × Nat} (ha : a < 16) (hb : b < 16) (hab : a ≠ b) (hx : σ a = some x) : ∃ h', xc XP d 144 [.ref m, .int (nI a), .int (nI b)] h = some (none, h') ∧ Mb h' m cm ca lm ra nu nr mm nm l (mvS σ a b) ∧ Dif h h' (NM m) := by
  obtain ⟨M, f, g, A, L, R, G, K⟩ := B
  obtain ⟨x1, x2, p1, p2⟩ := rs_some A R ha hx
  have g1 := mg_ld G K ha
  rw [hx] at g1
  have g1 : xld h (m + 4) 0 (nI a) = some (nI (mk l x)) := g1
  obtain ⟨k1, e1, A1, s1⟩ := ia_w A (by decide) (show 81 + b < 113 by omega) (nI x.1)
  have M1 : MdO k1 m cm ca lm ra nu nr mm nm := by unfold MdO; rw [s1.2 _ (by omega)]; exact M
  have p2' : xld k1 (m + 1) 0 (nI (97 + a)) = some (nI x.2) := by
    rw [ra_ld A1 (97 + a) (by omega), upd_n (by omega), ← ra_ld A (97 + a) (by omega)]
    exact p2
  obtain ⟨k2, e2, A2, s2⟩ := ia_w A1 (by decide) (show 97 + b < 113 by omega) (nI x.2)
  have M2 : MdO k2 m cm ca lm ra nu nr mm nm := by unfold MdO; rw [s2.2 _ (by omega)]; exact M1
  have G2 : k2[m + 4]? = some (ia 16 g) := by rw [s2.2 _ (by omega), s1.2 _ (by omega)]; exact G
  have g2 : xld k2 (m + 4) 0 (nI a) = some (nI (mk l x)) := by rw [xld_ia G2 (by decide) ha, ← xld_ia G (by decide) ha]; exact g1
  obtain ⟨k3, e3, G3, s3⟩ := ia_w G2 (by decide) hb (nI (mk l x))
  have M3 : MdO k3 m cm ca lm ra nu nr mm nm := by unfold MdO; rw [s3.2 _ (by omega)]; exact M2
  have A3 := A2
  rw [← s3.2 _ (by omega)] at A3
  obtain ⟨k4, e4, A4, s4⟩ := ia_w A3 (by decide) (show 81 + a < 113 by omega) (-4)
  have M4 : MdO k4 m cm ca lm ra nu nr mm nm := by unfold MdO; rw [s4.2 _ (by omega)]; exact M3
  obtain ⟨k5, e5, A5, s5⟩ := ia_w A4 (by decide) (show 97 + a < 113 by omega) (nI 0)
  have M5 : MdO k5 m cm ca lm ra nu nr mm nm := by unfold MdO; rw [s5.2 _ (by omega)]; exact M4
  have G5 := G3
  rw [← s4.2 _ (by omega), ← s5.2 _ (by omega)] at G5
  obtain ⟨k6, e6, G6, s6⟩ := ia_w G5 (by decide) ha (nI 0)
  have M6 : MdO k6 m cm ca lm ra nu nr mm nm := by unfold MdO; rw [s6.2 _ (by omega)]; exact M5
  have A6 := A5
  rw [← s6.2 _ (by omega)] at A6
  have D : Dif h k6 (NM m) := ((((((s1.dif (fun i h1 h2 => by unfold NM; omega)).trans (s2.dif (fun i h1 h2 => by unfold NM; omega))).trans (s3.dif (fun i h1 h2 => by unfold NM; omega))).trans (s4.dif (fun i h1 h2 => by unfold NM; omega))).trans (s5.dif (fun i h1 h2 => by unfold NM; omega))).trans (s6.dif (fun i h1 h2 => by unfold NM; omega)))
  refine ⟨k6, ?_, ⟨M6, _, _, A6, L.congr (fun k hk => ?_), ?_, G6, ?_⟩, D⟩
  · rw [n_X8_moves]
    simp (disch := first | assumption | omega) only [e_X8_moves_0, e_X8_moves_1, e_X8_moves_2, e_X8_moves_3, e_X8_moves_4, e_X8_moves_5, e_X8_moves_6, e_X8_moves_7, e_X8_moves_8, e_X8_moves_9, e_X8_moves_10, e_X8_moves_11, e_X8_moves_12, e_X8_moves_13, e_X8_moves_14, e_X8_moves_15, e_X8_moves_16, e_X8_moves_17, e_X8_moves_18, e_X8_moves_19, e_X8_moves_20, e_X8_moves_21, e_X8_moves_22, e_X8_moves_23, e_X8_moves_24, e_X8_moves_25, e_X8_moves_26, e_X8_moves_27, e_X8_moves_28, e_X8_moves_29, e_X8_moves_30, e_X8_moves_31, e_X8_moves_32, e_X8_moves_33, e_X8_moves_34, e_X8_moves_35, e_X8_moves_36, e_X8_moves_37, e_X8_moves_38, e_X8_moves_39, e_X8_moves_40, e_X8_moves_41, e_X8_moves_42, e_X8_moves_43, e_X8_moves_44, e_X8_moves_45, e_X8_moves_46, e_X8_moves_47, e_X8_moves_48, e_X8_moves_49, e_X8_moves_50, e_X8_moves_51, M.f0, M1.f0, M2.f0, M2.f5, M3.f0, M4.f0, M5.f5, Option.bind_some, nI_add, p1, e1, p2', e2, g2, e3, e4, e5, e6]
  · rw [upd_n (by omega), upd_n (by omega), upd_n (by omega), upd_n (by omega)]
  · intro s hs
    unfold mvS
    by_cases q1 : s = a
    · rw [if_pos q1, q1]
      show upd _ (97 + a) (nI 0) (81 + a) = -4
      rw [upd_n (by omega), upd_s]
    · rw [if_neg q1]
      by_cases q2 : s = b
      · rw [if_pos q2, q2, hx]
        refine ⟨x1, x2, ?_, ?_⟩
        · rw [upd_n (by omega), upd_n (by omega), upd_n (by omega), upd_s]
        · rw [upd_n (by omega), upd_n (by omega), upd_s]
      · rw [if_neg q2]
        have q := R s hs
        unfold rsIs at q ⊢
        rw [upd_n (by omega), upd_n (by omega), upd_n (by omega), upd_n (by omega), upd_n (by omega), upd_n (by omega), upd_n (by omega), upd_n (by omega)]
        exact q
  · intro s hs
    unfold mvS
    by_cases q1 : s = a
    · rw [if_pos q1, q1, upd_s]; rfl
    · rw [if_neg q1, upd_n q1]
      by_cases q2 : s = b
      · rw [if_pos q2, q2, upd_s, hx]; rfl
      · rw [if_neg q2, upd_n q2]
        exact K s hs
end Md4R
