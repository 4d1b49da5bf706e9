/-! PACKING -/
theorem rwF_tl : ∀ (k f t p : Nat), p < rwF k f t → tlF p f t ≤ t
  | 0, _, _, _, h => by simp [rwF] at h
  | k + 1, f, t, p, h => by
    unfold rwF at h
    split at h
    · next hf =>
      cases p with
      | zero => exact hf
      | succ p => exact rwF_tl k (f + psz f t) t p (by omega)
    · omega
theorem rwF_end : ∀ (k f t : Nat), rwF k f t < k → t < tlF (rwF k f t) f t
  | 0, _, _, h => by omega
  | k + 1, f, t, h => by
    unfold rwF at h ⊢
    split at h
    · next hf =>
      rw [if_pos hf, Nat.add_comm 1]
      exact rwF_end k (f + psz f t) t (by omega)
    · next hf =>
      rw [if_neg hf]
      show t < f
      omega
theorem rwF_7 : ∀ f, f < 16 → ∀ t, t < 16 → rwF 7 f t = rwF 6 f t := by decide
theorem rwF_1 {f t k : Nat} (h : f ≤ t) : 1 ≤ rwF (k + 1) f t := by
  unfold rwF
  rw [if_pos h]
  omega
theorem tl_le {q : Rl} (hq : vr q) {p : Nat} (hp : p < rwR q) : tlN q p ≤ q.2.2.2.1 := rwF_tl 6 _ _ _ hp
theorem tl_end {q : Rl} (hq : vr q) : q.2.2.2.1 < tlN q (rwR q) := by
  have h7 := rwF_7 q.2.2.1 (by have := hq.2.2; omega) q.2.2.2.1 hq.2.2.2.1
  have := rwF_end 7 q.2.2.1 q.2.2.2.1 (by rw [h7]; have := rwF_le 6 q.2.2.1 q.2.2.2.1; omega)
  rw [h7] at this
  exact this
theorem tlF_succ : ∀ (p f t : Nat), tlF (p + 1) f t = tlF p f t + psz (tlF p f t) t
  | 0, _, _ => rfl
  | p + 1, f, t => by
    show tlF (p + 1) (f + psz f t) t = _
    rw [tlF_succ p]
    rfl
theorem tl_succ (q : Rl) (p : Nat) : tlN q (p + 1) = tlN q p + psz (tlN q p) q.2.2.2.1 := tlF_succ p _ _
theorem rwR_pos {q : Rl} (hq : vr q) : 1 ≤ rwR q := rwF_1 hq.2.2.1
section PackR
variable {h : XH} {b : Nat} {l : List Rl}
/-- the rows of a rule are put from a place on -/
theorem q_packRowsOf {R P C V : Nat → Int32} (B : Bd h b l R P C V) {d j n : Nat} (hj : j < l.length) (hn : n + rwR (rlN l j) ≤ 16) : ∃ h' R' P' C' V', xc XP (d + 2) 5 [.ref b, .int (nI j), .int (nI n)] h = some (some (.int (nI (n + rwR (rlN l j)))), h') ∧ Bd h' b l R' P' C' V' ∧ Same h h' (b + 10) (b + 14) ∧
    (∀ s, s < 17 → ¬ (n ≤ s ∧ s < n + rwR (rlN l j)) → R' s = R s ∧ P' s = P s ∧ C' s = C s ∧ V' s = V s) ∧ (∀ p, p < rwR (rlN l j) → rowIs l R' P' C' V' (n + p) (j, p)) := by
  have hv := B.L.v hj
  obtain ⟨v1, v2, v3, v4, v5⟩ := id hv
  rw [n_X0_packRowsOf]
  simp (disch := first | assumption | omega) only [e_X0_packRowsOf_0, e_X0_packRowsOf_1, e_X0_packRowsOf_2, e_X0_packRowsOf_3, e_X0_packRowsOf_4, e_X0_packRowsOf_5, e_X0_packRowsOf_6, e_X0_packRowsOf_7, B.f0, B.L.f5, B.L.lF, Option.bind_some]
  have key : ∀ m p, p + m = rwR (rlN l j) → ∀ (h1 : XH) (R1 P1 C1 V1 : Nat → Int32), Bd h1 b l R1 P1 C1 V1 → Same h h1 (b + 10) (b + 14) →
      (∀ s, s < 17 → ¬ (n ≤ s ∧ s < n + p) → R1 s = R s ∧ P1 s = P s ∧ C1 s = C s ∧ V1 s = V s) → (∀ i, i < p → rowIs l R1 P1 C1 V1 (n + i) (j, i)) →
      ∃ h' R' P' C' V', xe XP (d + 2) 5 (8, [.ref b, .int (nI j), .int (nI n), .int (nI (tlN (rlN l j) p)), .int (nI p)], [], h1) = some (some (.int (nI (n + rwR (rlN l j)))), h') ∧ Bd h' b l R' P' C' V' ∧ Same h h' (b + 10) (b + 14) ∧
        (∀ s, s < 17 → ¬ (n ≤ s ∧ s < n + rwR (rlN l j)) → R' s = R s ∧ P' s = P s ∧ C' s = C s ∧ V' s = V s) ∧ (∀ p, p < rwR (rlN l j) → rowIs l R' P' C' V' (n + p) (j, p)) := by
    intro m
    induction m with
    | zero =>
      intro p hp h1 R1 P1 C1 V1 B1 s1 hk hr
      have hpe : p = rwR (rlN l j) := by omega
      subst hpe
      have hend := tl_end hv
      refine ⟨h1, R1, P1, C1, V1, ?_, B1, s1, hk, hr⟩
      have htl : tlN (rlN l j) (rwR (rlN l j)) < 100 := by
        have := rwR_pos hv
        obtain ⟨p, hp⟩ : ∃ p, rwR (rlN l j) = p + 1 := ⟨rwR (rlN l j) - 1, by omega⟩
        rw [hp, tl_succ]
        have h1 := tl_le hv (show p < rwR (rlN l j) by omega)
        have h2 := psz_pos (tlN (rlN l j) p) (rlN l j).2.2.2.1
        omega
      simp (disch := first | assumption | omega) only [e_X0_packRowsOf_8, e_X0_packRowsOf_9, e_X0_packRowsOf_10, e_X0_packRowsOf_11, e_X0_packRowsOf_12, e_X0_packRowsOf_13, e_X0_packRowsOf_14, e_X0_packRowsOf_40, e_X0_packRowsOf_41, e_X0_packRowsOf_42, e_X0_packRowsOf_43, B1.f0, B1.L.f6, B1.L.lL, Option.bind_some, nI_ltI, nI_add, if_t]
    | succ m ih =>
      intro p hp h1 R1 P1 C1 V1 B1 s1 hk hr
      have hple := tl_le hv (show p < rwR (rlN l j) by omega)
      have hpz := psz_pos (tlN (rlN l j) p) (rlN l j).2.2.2.1
      have hw6 : rwR (rlN l j) ≤ 6 := rwF_le 6 _ _
      obtain ⟨h2, e2, B2, s2⟩ := q_putRow B1 (d := d) (k := n + p) (j := j) (p := p) (u := tlN (rlN l j) p) (by omega) hj (by omega) (by omega)
      have c1 := B1.c
      rw [e_X0_packRowsOf_8]
      simp (disch := first | assumption | omega) only [e_X0_packRowsOf_9, e_X0_packRowsOf_10, e_X0_packRowsOf_11, e_X0_packRowsOf_12, e_X0_packRowsOf_13, e_X0_packRowsOf_14, e_X0_packRowsOf_15, e_X0_packRowsOf_16, e_X0_packRowsOf_17, e_X0_packRowsOf_18, e_X0_packRowsOf_19, e_X0_packRowsOf_20, e_X0_packRowsOf_21, e_X0_packRowsOf_22, e_X0_packRowsOf_23, e_X0_packRowsOf_24, e_X0_packRowsOf_25, e_X0_packRowsOf_26, e_X0_packRowsOf_27, e_X0_packRowsOf_28, e_X0_packRowsOf_29, e_X0_packRowsOf_30, e_X0_packRowsOf_31, e_X0_packRowsOf_32, e_X0_packRowsOf_33, e_X0_packRowsOf_34, e_X0_packRowsOf_35, e_X0_packRowsOf_36, e_X0_packRowsOf_37, e_X0_packRowsOf_38, e_X0_packRowsOf_39, B1.f0, B1.L.f6, B1.L.lL, B2.f0, B2.L.f6, B2.L.lL, Option.bind_some, nI_ltI, nI_leI, nI_add, if_f, e2, xbk_v, q_pieceSize, xbk_i]
      rw [← tl_succ]
      refine ih (p + 1) (by omega) h2 _ _ _ _ B2 (s1.trans s2) (fun s hs hns => ?_) (fun i hi => ?_)
      · have hne : s ≠ n + p := by omega
        simp only [upd_n hne]
        exact hk s hs (by omega)
      · by_cases hip : i = p
        · subst hip
          exact ⟨hj, (show i < rwR (rlN l j) by omega), upd_s, upd_s, upd_s, upd_s⟩
        · have hne : n + i ≠ n + p := by omega
          obtain ⟨g1, g2, g3, g4, g5, g6⟩ := hr i (by omega)
          exact ⟨g1, g2, by rw [upd_n hne]; exact g3, by rw [upd_n hne]; exact g4, by rw [upd_n hne]; exact g5, by rw [upd_n hne]; exact g6⟩
  exact key _ 0 (Nat.zero_add _) h R P C V B (Same.refl _ _ _) (fun s _ _ => ⟨rfl, rfl, rfl, rfl⟩) (fun i hi => by omega)
end PackR
/-- the rows by rank -/
def pkS (l : List Rl) (k : Nat) : List (Nat × Nat) := match nofR l k with
  | none => []
  | some r => (List.range (rwR (rlN l r))).map fun p => (r, p)
def pkL (l : List Rl) (n : Nat) : List (Nat × Nat) := itr (fun k a => a ++ pkS l k) [] n
def pk (l : List Rl) : Sl := fun s => (pkL l 100)[s]?
theorem pk_def (l : List Rl) (s : Nat) : pk l s = (pkL l 100)[s]? := rfl
theorem itr_add (w v : Nat → Nat) : ∀ n, itr (fun j a => a + (w j + v j)) 0 n = itr (fun j a => a + w j) 0 n + itr (fun j a => a + v j) 0 n
  | 0 => rfl
  | n + 1 => by
    show itr _ 0 n + (w n + v n) = (itr _ 0 n + w n) + (itr _ 0 n + v n)
    rw [itr_add w v n]
    omega
theorem itr_one (c r : Nat) : ∀ n, r < n → itr (fun j a => a + (if j = r then c else 0)) 0 n = c := by
  have h0 : ∀ n, n ≤ r → itr (fun j a => a + (if j = r then c else 0)) 0 n = 0 := by
    intro n
    induction n with
    | zero => intro _; rfl
    | succ n ih =>
      intro h
      show itr _ 0 n + _ = 0
      rw [ih (by omega), if_neg (by omega)]
  intro n
  induction n with
  | zero => intro h; omega
  | succ n ih =>
    intro h
    show itr _ 0 n + _ = c
    by_cases hn : n = r
    · rw [h0 n (by omega), if_pos hn]; omega
    · rw [ih (by omega), if_neg hn]; rfl
/-- how many rows the rules of a rank below k have -/
def sumK (l : List Rl) (k : Nat) : Nat := itr (fun j a => a + (if (rlN l j).1 < k then rwR (rlN l j) else 0)) 0 l.length
theorem sumK_succ {l : List Rl} (hd : dst l) (k : Nat) : sumK l (k + 1) = sumK l k + (pkS l k).length := by
  unfold sumK pkS
  cases hq : nofR l k with
  | none =>
    have hn := fup_none.mp hq
    rw [itr_congr (g := fun j a => a + (if (rlN l j).1 < k then rwR (rlN l j) else 0)) (fun j x hj => ?_)]
    · simp
    · have := hn j (Nat.zero_le _) (by omega)
      simp at this
      by_cases hlt : (rlN l j).1 < k
      · rw [if_pos hlt, if_pos (by omega)]
      · rw [if_neg hlt, if_neg (by omega)]
  | some r =>
    obtain ⟨h1, h2⟩ := nofR_some hq
    simp only [List.length_map, List.length_range]
    rw [← itr_one (rwR (rlN l r)) r l.length h1, ← itr_add]
    refine itr_congr (fun j x hj => ?_)
    by_cases hjr : j = r
    · subst hjr
      rw [if_pos (by omega), if_neg (by omega), if_pos rfl]
      omega
    · have hne : (rlN l j).1 ≠ k := fun e => hjr (hd j r hj h1 (by rw [e, h2]))
      rw [if_neg hjr]
      by_cases hlt : (rlN l j).1 < k
      · rw [if_pos hlt, if_pos (by omega)]; rfl
      · rw [if_neg hlt, if_neg (by omega)]
theorem pkL_len {l : List Rl} (hd : dst l) : ∀ n, (pkL l n).length = sumK l n := by
  intro n
  induction n with
  | zero =>
    show 0 = _
    unfold sumK
    have : ∀ m, itr (fun j a => a + (if (rlN l j).1 < 0 then rwR (rlN l j) else 0)) 0 m = 0 := by
      intro m
      induction m with
      | zero => rfl
      | succ m ih => show itr _ 0 m + _ = 0; rw [ih]; rfl
    exact (this _).symm
  | succ n ih =>
    show (pkL l n ++ pkS l n).length = _
    rw [List.length_append, ih, sumK_succ hd]
theorem sumK_le (l : List Rl) (k : Nat) : sumK l k ≤ allR l := by
  unfold sumK allR
  have : ∀ m, itr (fun j a => a + (if (rlN l j).1 < k then rwR (rlN l j) else 0)) 0 m ≤ itr (fun j a => a + rwR (rlN l j)) 0 m := by
    intro m
    induction m with
    | zero => exact Nat.le_refl _
    | succ m ih =>
      show itr _ 0 m + _ ≤ itr _ 0 m + _
      split <;> omega
  exact this _
theorem q_packRows {h : XH} {b : Nat} {l : List Rl} {R P C V : Nat → Int32} (B : Bd h b l R P C V) (hd : dst l) (hl : allR l ≤ 16) {d : Nat} : ∃ h', xc XP (d + 3) 4 [.ref b] h = some (none, h') ∧ Brd h' b l (pk l) ∧ Same h h' (b + 10) (b + 14) := by
  obtain ⟨h0, R0, e0, hR0, T0, s0⟩ := q_clearAll B.T (d := d + 1)
  have B0 := B.setT T0 (s0.weak (by omega) (by omega))
  have s0 : Same h h0 (b + 10) (b + 14) := s0.weak (by omega) (by omega)
  have c0 := B.T.c
  rw [n_X0_packRows]
  simp (disch := first | assumption | omega) only [e_X0_packRows_0, e_X0_packRows_1, e_X0_packRows_2, e_X0_packRows_3, e_X0_packRows_4, e_X0_packRows_5, e_X0_packRows_6, B.f1, Option.bind_some, e0, xbk_v]
  have dead : ∀ (k n : Nat) (v : Int32) (h1 : XH) (R1 P1 C1 V1 : Nat → Int32), Bd h1 b l R1 P1 C1 V1 → k ≤ 100 → xe XP (d + 3) 4 (7, [.ref b, .int (nI n), .int (nI k), .int v], [], h1) = xe XP (d + 3) 4 (7, [.ref b, .int (nI n), .int (nI k), .null], [], h1) := by
    intro k n v h1 R1 P1 C1 V1 B1 hk
    have c1 := B1.L.c
    rw [e_X0_packRows_7 (a3 := .int v), e_X0_packRows_7 (a3 := .null)]
    by_cases hk2 : k < 100
    · simp (disch := first | assumption | omega) only [e_X0_packRows_8, e_X0_packRows_9, e_X0_packRows_10, e_X0_packRows_11, e_X0_packRows_12, e_X0_packRows_13, e_X0_packRows_14, B1.f0, Option.bind_some, q_numberOf B1.L, xbk_i, nI_leI, if_f]
    · simp (disch := first | assumption | omega) only [e_X0_packRows_8, e_X0_packRows_9, e_X0_packRows_24, nI_leI, if_t]
  have key : ∀ m k, k + m = 100 → ∀ (h1 : XH) (R1 P1 C1 V1 : Nat → Int32), Bd h1 b l R1 P1 C1 V1 → Same h h1 (b + 10) (b + 14) →
      (∀ s, s < 16 → slIs l R1 P1 C1 V1 s ((pkL l k)[s]?)) →
      ∃ h', xe XP (d + 3) 4 (7, [.ref b, .int (nI (pkL l k).length), .int (nI k), .null], [], h1) = some (none, h') ∧ Brd h' b l (pk l) ∧ Same h h' (b + 10) (b + 14) := by
    intro m
    induction m with
    | zero =>
      intro k hk h1 R1 P1 C1 V1 B1 s1 hs
      have hk : k = 100 := by omega
      have hpk : ∀ s, pk l s = (pkL l k)[s]? := fun s => by rw [hk, pk_def]
      refine ⟨h1, ?_, ⟨R1, P1, C1, V1, B1, fun s hs16 => by rw [hpk]; exact hs s hs16⟩, s1⟩
      simp (disch := first | assumption | omega) only [e_X0_packRows_7, e_X0_packRows_8, e_X0_packRows_9, e_X0_packRows_24, nI_leI, if_t]
    | succ m ih =>
      intro k hk h1 R1 P1 C1 V1 B1 s1 hs
      have c1 := B1.L.c
      have c2 := B1.c
      have hlen := pkL_len hd k
      have hsum := sumK_succ hd k
      have hle := sumK_le l (k + 1)
      have hnx : pkL l (k + 1) = pkL l k ++ pkS l k := rfl
      rw [e_X0_packRows_7]
      cases hq : nofR l k with
      | none =>
        have hpk : pkS l k = [] := by unfold pkS; rw [hq]
        simp (disch := first | assumption | omega) only [e_X0_packRows_8, e_X0_packRows_9, e_X0_packRows_10, e_X0_packRows_11, e_X0_packRows_12, e_X0_packRows_13, e_X0_packRows_14, e_X0_packRows_15, e_X0_packRows_16, e_X0_packRows_17, e_X0_packRows_18, e_X0_packRows_19, e_X0_packRows_20, e_X0_packRows_21, e_X0_packRows_22, e_X0_packRows_23, B1.f0, Option.bind_some, q_numberOf B1.L, hq, oI_none, m4_lt0, if_true, xbk_i, nI_leI, nI_add, if_f, dead _ _ _ h1 R1 P1 C1 V1 B1]
        have := ih (k + 1) (by omega) h1 R1 P1 C1 V1 B1 s1 (by rw [hnx, hpk, List.append_nil]; exact hs)
        rw [hnx, hpk, List.append_nil] at this
        exact this
      | some r =>
        obtain ⟨g1, g2⟩ := nofR_some hq
        have h16 := B1.L.1
        have hpk : pkS l k = (List.range (rwR (rlN l r))).map fun p => (r, p) := by unfold pkS; rw [hq]
        have hpl : (pkS l k).length = rwR (rlN l r) := by rw [hpk]; simp
        obtain ⟨h2, R2, P2, C2, V2, e2, B2, s2, hk2, hr2⟩ := q_packRowsOf B1 (d := d) (j := r) (n := (pkL l k).length) g1 (by omega)
        simp (disch := first | assumption | omega) only [e_X0_packRows_8, e_X0_packRows_9, e_X0_packRows_10, e_X0_packRows_11, e_X0_packRows_12, e_X0_packRows_13, e_X0_packRows_14, e_X0_packRows_15, e_X0_packRows_16, e_X0_packRows_17, e_X0_packRows_18, e_X0_packRows_19, e_X0_packRows_20, e_X0_packRows_21, e_X0_packRows_22, e_X0_packRows_23, B1.f0, Option.bind_some, q_numberOf B1.L, hq, oI_some, nI_lt0, if_f, xbk_i, nI_leI, nI_add, e2, dead _ _ _ h2 R2 P2 C2 V2 B2]
        have := ih (k + 1) (by omega) h2 R2 P2 C2 V2 B2 (s1.trans s2) (fun s hs16 => by
          rw [hnx]
          by_cases hlt : s < (pkL l k).length
          · rw [List.getElem?_append_left hlt]
            obtain ⟨z1, z2, z3, z4⟩ := hk2 s (by omega) (by omega)
            exact (hs s hs16).to z1 z2 z3 z4
          · rw [List.getElem?_append_right (by omega)]
            by_cases hlt2 : s - (pkL l k).length < rwR (rlN l r)
            · have hget : (pkS l k)[s - (pkL l k).length]? = some (r, s - (pkL l k).length) := by
                rw [hpk, List.getElem?_map, List.getElem?_range hlt2]
                rfl
              rw [hget]
              have := hr2 (s - (pkL l k).length) hlt2
              rw [show (pkL l k).length + (s - (pkL l k).length) = s by omega] at this
              exact this
            · rw [List.getElem?_eq_none (by omega)]
              obtain ⟨z1, z2, z3, z4⟩ := hk2 s (by omega) (by omega)
              have h0 := hs s hs16
              rw [List.getElem?_eq_none (by omega)] at h0
              exact h0.to z1 z2 z3 z4)
        rw [hnx, List.length_append, hpl] at this
        exact this
  have := key 100 0 (by omega) h0 R0 P C V B0 s0 (fun s hs => by show slIs _ _ _ _ _ _ none; exact hR0 s (by omega))
  exact this
