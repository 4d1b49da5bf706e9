/-! BOTH ARE MADE -/
def H7 (c0 : XC) (Ra Rb R0 R1 R2 R3 R4 : Nat → Int32) : XH := [c0, .inl (9, [.ref 2, .int 0]), .inr (.inl (4, 53, xtf))] ++ .inl (7, [.ref 4, .ref 6, .ref 7, .ref 21, .ref 35, .ref 38, .ref 41]) :: (((((([] ++ [.inl (6, [.ref 5, .int (nI 0)]), iz 200]) ++ [.inl (4, [.int (nI 0), .int (nI 0), .int (nI 0), .int (nI 0), .int (nI 0), .int (nI 0)])]) ++ bd14 7 Ra) ++ bd14 21 Rb) ++ [.inl (1, [.ref 36, .ref 37, .int (nI 0)]), iz 18, iz 18]) ++ [.inl (1, [.ref 39, .ref 40, .int (nI 0)]), iz 18, iz 18] ++ .inl (2, [.ref 42, .int (nI 0), .int (nI 0)]) :: .inr (.inr [.ref 43, .ref 57, .ref 71, .ref 85, .ref 99]) :: ([] ++ bd14 43 R0 ++ bd14 57 R1 ++ bd14 71 R2 ++ bd14 85 R3 ++ bd14 99 R4))
theorem bd_bd {h : XH} {t : Nat} {R : Nat → Int32} (hj : ∀ j, j < 14 → h[t + j]? = (bd14 t R)[j]?) : Bd h t [] R (fun _ => 0) (fun _ => 0) (fun _ => 0) := by
  refine ⟨hj 0 (by omega), ⟨by simp, by simp, hj 1 (by omega), fun _ => 0, fun _ => 0, fun _ => 0, fun _ => 0, fun _ => 0, fun _ => 0, fun _ => 0, hj 2 (by omega), hj 3 (by omega), hj 4 (by omega), hj 5 (by omega), hj 6 (by omega), hj 7 (by omega), hj 8 (by omega), fun j hj => absurd hj (Nat.not_lt_zero j)⟩, hj 9 (by omega), hj 10 (by omega), hj 11 (by omega), hj 12 (by omega), hj 13 (by omega)⟩
theorem bd_brd {h : XH} {t : Nat} {R : Nat → Int32} (hR : ∀ k, k < 17 → R k = -4) (hj : ∀ j, j < 14 → h[t + j]? = (bd14 t R)[j]?) : Brd h t [] (fun _ => none) := ⟨R, _, _, _, bd_bd hj, fun s hs => hR s (by omega)⟩
def pb0 : Nat → Bst := fun _ => ([], fun _ => none)
def S0 : CS := mkS [] [] (fun _ => none) [] 0 0 pb0
def S1 : CS := mkS [] l1 (pk l1) [] 0 0 pb0
theorem cr_0 {c0 : XC} {Ra Rb R0 R1 R2 R3 R4 : Nat → Int32} (ha : ∀ k, k < 17 → Ra k = -4) (hb : ∀ k, k < 17 → Rb k = -4) (hR : ∀ k, k < 17 → R0 k = -4 ∧ R1 k = -4 ∧ R2 k = -4 ∧ R3 k = -4 ∧ R4 k = -4) : Cr (H7 c0 Ra Rb R0 R1 R2 R3 R4) 3 S0 := by
  refine ⟨rfl, ⟨by show 0 ≤ 200; omega, fun c hc => (by cases hc), rfl, _, rfl, fun j c hj => (by cases hj)⟩, ⟨_, _, _, _, _, _, rfl⟩, bd_brd ha ?_, (bd_brd hb ?_).x, ⟨by show 0 ≤ 18; omega, rfl, _, _, rfl, rfl, fun j q hj => (by cases hj)⟩, ⟨[], by show 0 ≤ 18; omega, rfl, _, _, rfl, rfl, fun j q hj => (by cases hj)⟩, by show 0 < 5; omega, by show 0 ≤ 5; omega, rfl, rfl, ?_⟩
  · intro j hj
    match j, hj with
    | 0, _ => rfl
    | 1, _ => rfl
    | 2, _ => rfl
    | 3, _ => rfl
    | 4, _ => rfl
    | 5, _ => rfl
    | 6, _ => rfl
    | 7, _ => rfl
    | 8, _ => rfl
    | 9, _ => rfl
    | 10, _ => rfl
    | 11, _ => rfl
    | 12, _ => rfl
    | 13, _ => rfl
    | j + 14, hj => omega
  · intro j hj
    match j, hj with
    | 0, _ => rfl
    | 1, _ => rfl
    | 2, _ => rfl
    | 3, _ => rfl
    | 4, _ => rfl
    | 5, _ => rfl
    | 6, _ => rfl
    | 7, _ => rfl
    | 8, _ => rfl
    | 9, _ => rfl
    | 10, _ => rfl
    | 11, _ => rfl
    | 12, _ => rfl
    | 13, _ => rfl
    | j + 14, hj => omega
  · intro i hi
    have cell : ∀ (A : XH) (t : Nat) (R : Nat → Int32) (B : XH) (h : XH), h = A ++ (bd14 t R ++ B) → A.length = t → ∀ j, j < 14 → h[t + j]? = (bd14 t R)[j]? := by
      intro A t R B h e ht j hj
      subst e
      rw [List.getElem?_append_right (by omega), ht, Nat.add_sub_cancel_left, List.getElem?_append_left (by rw [bd14_len]; exact hj)]
    match i, hi with
    | 0, _ => exact bd_brd (fun k hk => (hR k hk).1) (cell ((H7 c0 Ra Rb R0 R1 R2 R3 R4).take 43) 43 R0 ((H7 c0 Ra Rb R0 R1 R2 R3 R4).drop 57) _ rfl rfl)
    | 1, _ => exact bd_brd (fun k hk => (hR k hk).2.1) (cell ((H7 c0 Ra Rb R0 R1 R2 R3 R4).take 57) 57 R1 ((H7 c0 Ra Rb R0 R1 R2 R3 R4).drop 71) _ rfl rfl)
    | 2, _ => exact bd_brd (fun k hk => (hR k hk).2.2.1) (cell ((H7 c0 Ra Rb R0 R1 R2 R3 R4).take 71) 71 R2 ((H7 c0 Ra Rb R0 R1 R2 R3 R4).drop 85) _ rfl rfl)
    | 3, _ => exact bd_brd (fun k hk => (hR k hk).2.2.2.1) (cell ((H7 c0 Ra Rb R0 R1 R2 R3 R4).take 85) 85 R3 ((H7 c0 Ra Rb R0 R1 R2 R3 R4).drop 99) _ rfl rfl)
    | 4, _ => exact bd_brd (fun k hk => (hR k hk).2.2.2.2) (cell ((H7 c0 Ra Rb R0 R1 R2 R3 R4).take 99) 99 R4 ((H7 c0 Ra Rb R0 R1 R2 R3 R4).drop 113) _ rfl rfl)
    | i + 5, hi => omega
theorem lay_0 : aLay (mkS fx [] (fun _ => none) [] 0 0 pb0) = (nI 4, mkS fx l1 (pk l1) [] 0 0 pb0) := by
  have hA : allR l1 ≤ 16 := by decide
  have e : rdS (mkS fx [] (fun _ => none) [] 0 0 pb0).tx 17 0 [] = (none, l1) := fx_read
  unfold aLay
  rw [e]
  simp only []
  rw [if_pos hA]
  rfl
theorem q_init7 {d : Nat} {c0 : XC} : ∃ h', xc XP (d + 14) 77 [.ref 3] [c0, .inl (9, [.ref 2, .int 0]), .inr (.inl (4, 53, xtf)), .inl (7, [.null, .null, .null, .null, .null, .null, .null])] = some (none, h') ∧ Cr h' 3 S1 ∧ h'.length = 113 ∧ ∀ i, i < 3 → h'[i]? = ([c0, .inl (9, [.ref 2, .int 0]), .inr (.inl (4, 53, xtf))] : XH)[i]? := by
  have e0 := f_text (d := d) (w := .null) (p := [c0, .inl (9, [.ref 2, .int 0]), .inr (.inl (4, 53, xtf))]) (rest := []) (t := 4) rfl
  have e1 := f_reader (d := d) (w := .null) (v0 := .ref 4) (p := [c0, .inl (9, [.ref 2, .int 0]), .inr (.inl (4, 53, xtf))]) (rest := [] ++ [.inl (6, [.ref 5, .int (nI 0)]), iz 200]) (t := 6) rfl
  obtain ⟨Ra, e2, ha⟩ := f_board (d := d) (w := .null) (v0 := .ref 4) (v1 := .ref 6) (p := [c0, .inl (9, [.ref 2, .int 0]), .inr (.inl (4, 53, xtf))]) (rest := ([] ++ [.inl (6, [.ref 5, .int (nI 0)]), iz 200]) ++ [.inl (4, [.int (nI 0), .int (nI 0), .int (nI 0), .int (nI 0), .int (nI 0), .int (nI 0)])]) (t := 7) rfl
  obtain ⟨Rb, e3, hb⟩ := f_trial (d := d) (w := .null) (v0 := .ref 4) (v1 := .ref 6) (v2 := .ref 7) (p := [c0, .inl (9, [.ref 2, .int 0]), .inr (.inl (4, 53, xtf))]) (rest := (([] ++ [.inl (6, [.ref 5, .int (nI 0)]), iz 200]) ++ [.inl (4, [.int (nI 0), .int (nI 0), .int (nI 0), .int (nI 0), .int (nI 0), .int (nI 0)])]) ++ bd14 7 Ra) (t := 21) rfl
  have e4 := f_made (d := d) (w := .null) (v0 := .ref 4) (v1 := .ref 6) (v2 := .ref 7) (v3 := .ref 21) (p := [c0, .inl (9, [.ref 2, .int 0]), .inr (.inl (4, 53, xtf))]) (rest := ((([] ++ [.inl (6, [.ref 5, .int (nI 0)]), iz 200]) ++ [.inl (4, [.int (nI 0), .int (nI 0), .int (nI 0), .int (nI 0), .int (nI 0), .int (nI 0)])]) ++ bd14 7 Ra) ++ bd14 21 Rb) (t := 35) rfl
  have e5 := f_tried (d := d) (w := .null) (v0 := .ref 4) (v1 := .ref 6) (v2 := .ref 7) (v3 := .ref 21) (v4 := .ref 35) (p := [c0, .inl (9, [.ref 2, .int 0]), .inr (.inl (4, 53, xtf))]) (rest := (((([] ++ [.inl (6, [.ref 5, .int (nI 0)]), iz 200]) ++ [.inl (4, [.int (nI 0), .int (nI 0), .int (nI 0), .int (nI 0), .int (nI 0), .int (nI 0)])]) ++ bd14 7 Ra) ++ bd14 21 Rb) ++ [.inl (1, [.ref 36, .ref 37, .int (nI 0)]), iz 18, iz 18]) (t := 38) rfl
  obtain ⟨R0, R1, R2, R3, R4, e6, hR⟩ := f_past (d := d) (w := .null) (v0 := .ref 4) (v1 := .ref 6) (v2 := .ref 7) (v3 := .ref 21) (v4 := .ref 35) (v5 := .ref 38) (p := [c0, .inl (9, [.ref 2, .int 0]), .inr (.inl (4, 53, xtf))]) (rest := ((((([] ++ [.inl (6, [.ref 5, .int (nI 0)]), iz 200]) ++ [.inl (4, [.int (nI 0), .int (nI 0), .int (nI 0), .int (nI 0), .int (nI 0), .int (nI 0)])]) ++ bd14 7 Ra) ++ bd14 21 Rb) ++ [.inl (1, [.ref 36, .ref 37, .int (nI 0)]), iz 18, iz 18]) ++ [.inl (1, [.ref 39, .ref 40, .int (nI 0)]), iz 18, iz 18]) (t := 41) rfl
  have all := e0.trans (e1.trans (e2.trans (e3.trans (e4.trans (e5.trans e6)))))
  have all : xe XP (d + 14) 77 (2, [.ref 3, .null], [], [c0, .inl (9, [.ref 2, .int 0]), .inr (.inl (4, 53, xtf)), .inl (7, [.null, .null, .null, .null, .null, .null, .null])]) = xe XP (d + 14) 77 (37, [.ref 3, .null], [], H7 c0 Ra Rb R0 R1 R2 R3 R4) := all
  have K := cr_0 (c0 := c0) ha hb hR
  have k0 : ∀ i, i < 3 → (H7 c0 Ra Rb R0 R1 R2 R3 R4)[i]? = ([c0, .inl (9, [.ref 2, .int 0]), .inr (.inl (4, 53, xtf))] : XH)[i]? := fun i hi => List.getElem?_append_left hi
  have k1 : (H7 c0 Ra Rb R0 R1 R2 R3 R4)[1]? = some (.inl (9, [.ref 2, .int 0])) := rfl
  have k2 : (H7 c0 Ra Rb R0 R1 R2 R3 R4)[2]? = some (.inr (.inl (4, 53, xtf))) := rfl
  have kl : (H7 c0 Ra Rb R0 R1 R2 R3 R4).length = 113 := rfl
  generalize H7 c0 Ra Rb R0 R1 R2 R3 R4 = H at all K k0 k1 k2 kl
  obtain ⟨h1, t1, K1, s1⟩ := text_loop (d := d) (l := []) (σ := fun _ => none) (ms := []) (nx := 0) (sz := 0) (pb := pb0) 53 0 H rfl K k1 k2
  have c7 := K1.O.k
  obtain ⟨h2, e7, K2, s2⟩ := q_layText K1 (d := d)
  rw [lay_0] at e7 K2
  obtain ⟨h3, e8, X3, s3⟩ := K2.X.clear
  have O2 := K2.O
  have f0 : xgf h2 3 7 0 = some (.ref 4) := O2.f0
  have K3 : Cr h3 3 S1 := by
    obtain ⟨ms0, N⟩ := K2.N
    exact ⟨O2.same s3 (by omega), X3, K2.Z.same s3 (by omega), K2.B.same s3 (by omega), K2.T.same s3 (by omega), K2.M.same s3 (by omega), ⟨ms0, N.same s3 (by omega)⟩, K2.Q.same s3 (by omega)⟩
  refine ⟨h3, ?_, K3, by rw [s3.1, s2.1, s1.1]; exact kl, fun i hi => (by rw [s3.2 _ (by omega), s2.2 _ (by omega), s1.2 _ (by omega)]; exact k0 i hi)⟩
  rw [n_X7_init]
  have e8 : xpf h2 4 6 1 (.int (nI 0)) = some h3 := e8
  simp only [e_X7_init_0, e_X7_init_1, all]
  simp only [e_X7_init_37, e_X7_init_38, t1]
  simp (disch := first | assumption | omega) only [e_X7_init_52, e_X7_init_53, e_X7_init_54, e_X7_init_55, e_X7_init_56, e_X7_init_57, e_X7_init_58, e_X7_init_59, e7, xbk_i, f0, Option.bind_some, e8]
