/-! THE TABLE's writes -/
theorem xcp_ia {h : XH} {a b n : Nat} {f g : Nat → Int32} (e1 : h[a]? = some (ia n f)) (e2 : h[b]? = some (ia n g)) (hn : n < 2 ^ 31) : xcp h a b (nI 0) (nI 0) (nI n) = some (h.set b (ia n (va_cpy f g 0 0 n))) := by
  unfold xcp
  rw [xar_ia e1, xar_ia e2]
  simp only [Option.bind_some]
  rw [nI_clamp hn, nI_clamp (show 0 < 2 ^ 31 by decide), if_pos]
  simp [nI_pos hn, show ¬ (nI 0 < 0) by decide]
theorem cpy0 {f g : Nat → Int32} {n k : Nat} (hk : k < n) : va_cpy f g 0 0 n k = f k := by
  unfold va_cpy
  rw [if_pos ⟨Nat.zero_le _, by omega⟩]
  simp
theorem upd_s {f : Nat → Int32} {k : Nat} {x : Int32} : upd f k x k = x := by simp [upd]
theorem upd_n {f : Nat → Int32} {k j : Nat} {x : Int32} (h : j ≠ k) : upd f k x j = f j := by simp [upd, h]
theorem q_fill {h : XH} {a n : Nat} {f : Nat → Int32} {x : Int32} (e : h[a]? = some (ia n f)) (hn : n < 2 ^ 30) {d : Nat} : ∃ f', xc XP d 190 [.ref a, .int x] h = some (none, h.set a (ia n f')) ∧ ∀ k, k < n → f' k = x := by
  rw [n_J7_fill_53178]
  have hx := xar_ia e
  simp only [e_J7_fill_53178_0, e_J7_fill_53178_1, e_J7_fill_53178_2, e_J7_fill_53178_3, e_J7_fill_53178_4, hx, Option.bind_some]
  have g0 : h = h.set a (ia n (fun k => if k < 0 then x else f k)) := by
    have hl := (List.getElem?_eq_some_iff.mp e).1
    have h2 := (List.getElem?_eq_some_iff.mp e).2
    simp only [Nat.not_lt_zero, if_false]
    rw [← h2]
    exact (List.set_getElem_self hl).symm
  have key : ∀ m j, j + m = n → xe XP d 190 (5, [.ref a, .int x, .int (nI j), .int (nI n)], [], h.set a (ia n (fun k => if k < j then x else f k))) = xe XP d 190 (5, [.ref a, .int x, .int (nI n), .int (nI n)], [], h.set a (ia n (fun k => if k < n then x else f k))) := by
    intro m
    induction m with
    | zero => intro j hj; rw [show j = n by omega]
    | succ m ih =>
      intro j hj
      have e2 := get_set e (ia n (fun k => if k < j then x else f k))
      have hs := xst_ia e2 (by omega) (show j < n by omega) x
      rw [e_J7_fill_53178_5]
      simp (disch := omega) only [e_J7_fill_53178_6, e_J7_fill_53178_7, e_J7_fill_53178_8, e_J7_fill_53178_9, e_J7_fill_53178_10, e_J7_fill_53178_11, e_J7_fill_53178_12, e_J7_fill_53178_13, nI_leI, nI_add, if_f, hs, Option.bind_some]
      rw [List.set_set]
      have hf : upd (fun k => if k < j then x else f k) j x = (fun k => if k < j + 1 then x else f k) := by
        funext k
        unfold upd
        by_cases hk : k = j
        · subst hk; simp
        · by_cases hk2 : k < j
          · simp [hk, hk2, show k < j + 1 by omega]
          · simp [hk, hk2, show ¬ k < j + 1 by omega]
      rw [hf]
      exact ih (j + 1) (by omega)
  have k0 := key n 0 (by omega)
  rw [← g0] at k0
  refine ⟨fun k => if k < n then x else f k, ?_, fun k hk => by simp [hk]⟩
  rw [k0]
  simp (disch := omega) only [e_J7_fill_53178_5, e_J7_fill_53178_6, e_J7_fill_53178_7, e_J7_fill_53178_14, nI_leI, if_t]
section TabW
variable {h : XH} {t : Nat} {R P C V : Nat → Int32}
theorem Tab.sR (T : Tab h t R P C V) (k : Nat) (hk : k < 17) (x : Int32) : xst h (t + 1) 0 (nI k) x = some (h.set (t + 1) (ia 17 (upd R k x))) := xst_ia T.2.1 (by decide) hk x
theorem Tab.sP (T : Tab h t R P C V) (k : Nat) (hk : k < 17) (x : Int32) : xst h (t + 2) 0 (nI k) x = some (h.set (t + 2) (ia 17 (upd P k x))) := xst_ia T.2.2.1 (by decide) hk x
theorem Tab.sC (T : Tab h t R P C V) (k : Nat) (hk : k < 17) (x : Int32) : xst h (t + 3) 0 (nI k) x = some (h.set (t + 3) (ia 17 (upd C k x))) := xst_ia T.2.2.2.1 (by decide) hk x
theorem Tab.sV (T : Tab h t R P C V) (k : Nat) (hk : k < 17) (x : Int32) : xst h (t + 4) 0 (nI k) x = some (h.set (t + 4) (ia 17 (upd V k x))) := xst_ia T.2.2.2.2 (by decide) hk x
theorem Tab.wR (T : Tab h t R P C V) (R' : Nat → Int32) : Tab (h.set (t + 1) (ia 17 R')) t R' P C V :=
  ⟨by rw [get_ne _ (by omega)]; exact T.1, get_set T.2.1 _, by rw [get_ne _ (by omega)]; exact T.2.2.1, by rw [get_ne _ (by omega)]; exact T.2.2.2.1, by rw [get_ne _ (by omega)]; exact T.2.2.2.2⟩
theorem Tab.wP (T : Tab h t R P C V) (P' : Nat → Int32) : Tab (h.set (t + 2) (ia 17 P')) t R P' C V :=
  ⟨by rw [get_ne _ (by omega)]; exact T.1, by rw [get_ne _ (by omega)]; exact T.2.1, get_set T.2.2.1 _, by rw [get_ne _ (by omega)]; exact T.2.2.2.1, by rw [get_ne _ (by omega)]; exact T.2.2.2.2⟩
theorem Tab.wC (T : Tab h t R P C V) (C' : Nat → Int32) : Tab (h.set (t + 3) (ia 17 C')) t R P C' V :=
  ⟨by rw [get_ne _ (by omega)]; exact T.1, by rw [get_ne _ (by omega)]; exact T.2.1, by rw [get_ne _ (by omega)]; exact T.2.2.1, get_set T.2.2.2.1 _, by rw [get_ne _ (by omega)]; exact T.2.2.2.2⟩
theorem Tab.wV (T : Tab h t R P C V) (V' : Nat → Int32) : Tab (h.set (t + 4) (ia 17 V')) t R P C V' :=
  ⟨by rw [get_ne _ (by omega)]; exact T.1, by rw [get_ne _ (by omega)]; exact T.2.1, by rw [get_ne _ (by omega)]; exact T.2.2.1, by rw [get_ne _ (by omega)]; exact T.2.2.2.1, get_set T.2.2.2.2 _⟩
theorem Tab.same {h' : XH} (T : Tab h t R P C V) {lo hi : Nat} (s : Same h h' lo hi) (hd : t + 5 ≤ lo ∨ hi ≤ t) : Tab h' t R P C V :=
  ⟨by rw [s.2 _ (by omega)]; exact T.1, by rw [s.2 _ (by omega)]; exact T.2.1, by rw [s.2 _ (by omega)]; exact T.2.2.1, by rw [s.2 _ (by omega)]; exact T.2.2.2.1, by rw [s.2 _ (by omega)]; exact T.2.2.2.2⟩
theorem q_clear (T : Tab h t R P C V) {d k : Nat} (hk : k < 17) : ∃ h', xc XP d 47 [.ref t, .int (nI k)] h = some (none, h') ∧ Tab h' t (upd R k (-4)) P C V ∧ Same h h' (t + 1) (t + 5) := by
  refine ⟨_, ?_, T.wR _, (Same.refl h _ _).set (by omega) (by omega) _⟩
  rw [n_X5_clear]
  simp (disch := omega) only [e_X5_clear_0, e_X5_clear_1, e_X5_clear_2, e_X5_clear_3, e_X5_clear_4, e_X5_clear_5, T.f0, T.sR, Option.bind_some]
theorem q_put (T : Tab h t R P C V) {d k : Nat} (hk : k < 17) {rk pi ca va : Int32} : ∃ h', xc XP d 49 [.ref t, .int (nI k), .int rk, .int pi, .int ca, .int va] h = some (none, h') ∧ Tab h' t (upd R k rk) (upd P k pi) (upd C k ca) (upd V k (va &&& ca)) ∧ Same h h' (t + 1) (t + 5) := by
  have T1 := T.wR (upd R k rk)
  have T2 := T1.wP (upd P k pi)
  have T3 := T2.wC (upd C k ca)
  have T4 := T3.wV (upd V k (va &&& ca))
  refine ⟨_, ?_, T4, ((((Same.refl h _ _).set (by omega) (by omega) _).set (by omega) (by omega) _).set (by omega) (by omega) _).set (by omega) (by omega) _⟩
  rw [n_X5_put]
  simp (disch := omega) only [e_X5_put_0, e_X5_put_1, e_X5_put_2, e_X5_put_3, e_X5_put_4, e_X5_put_5, e_X5_put_6, e_X5_put_7, e_X5_put_8, e_X5_put_9, e_X5_put_10, e_X5_put_11, e_X5_put_12, e_X5_put_13, e_X5_put_14, e_X5_put_15, e_X5_put_16, e_X5_put_17, e_X5_put_18, e_X5_put_19, e_X5_put_20, e_X5_put_21, e_X5_put_22, T.f0, T.sR, T1.f1, T1.sP, T2.f2, T2.sC, T3.f3, T3.sV, Option.bind_some]
theorem q_shift (T : Tab h t R P C V) {d f g : Nat} (hf : f < 17) (hg : g < 17) : ∃ h', xc XP (d + 1) 50 [.ref t, .int (nI f), .int (nI g)] h = some (none, h') ∧ Tab h' t (upd (upd R g (R f)) f (-4)) (upd P g (P f)) (upd C g (C f)) (upd V g (V f &&& C f)) ∧ Same h h' (t + 1) (t + 5) := by
  obtain ⟨h1, e1, T1, s1⟩ := q_put T (d := d) (k := g) hg (rk := R f) (pi := P f) (ca := C f) (va := V f)
  obtain ⟨h2, e2, T2, s2⟩ := q_clear T1 (d := d) (k := f) hf
  have hc := T.c
  have hc1 := T1.c
  refine ⟨h2, ?_, T2, s1.trans s2⟩
  rw [n_X5_shift]
  simp (disch := first | assumption | omega) only [e_X5_shift_0, e_X5_shift_1, e_X5_shift_2, e_X5_shift_3, e_X5_shift_4, e_X5_shift_5, e_X5_shift_6, e_X5_shift_7, e_X5_shift_8, e_X5_shift_9, e_X5_shift_10, e_X5_shift_11, e_X5_shift_12, e_X5_shift_13, e_X5_shift_14, e_X5_shift_15, e_X5_shift_16, e_X5_shift_17, e_X5_shift_18, e_X5_shift_19, e_X5_shift_20, e_X5_shift_21, e_X5_shift_22, T.f0, T.f1, T.f2, T.f3, T.lR, T.lP, T.lC, T.lV, Option.bind_some, e1, e2, xbk_v]
theorem q_loosen (T : Tab h t R P C V) {d k : Nat} (hk : k < 17) {b : Int32} : ∃ h', xc XP d 51 [.ref t, .int (nI k), .int b] h = some (none, h') ∧ Tab h' t R P (upd C k (C k &&& (b ^^^ (-1)))) (upd V k (V k &&& (b ^^^ (-1)))) ∧ Same h h' (t + 1) (t + 5) := by
  have T1 := T.wC (upd C k (C k &&& (b ^^^ (-1))))
  have T2 := T1.wV (upd V k (V k &&& (b ^^^ (-1))))
  refine ⟨_, ?_, T2, ((Same.refl h _ _).set (by omega) (by omega) _).set (by omega) (by omega) _⟩
  rw [n_X5_loosen]
  simp (disch := omega) only [e_X5_loosen_0, e_X5_loosen_1, e_X5_loosen_2, e_X5_loosen_3, e_X5_loosen_4, e_X5_loosen_5, e_X5_loosen_6, e_X5_loosen_7, e_X5_loosen_8, e_X5_loosen_9, e_X5_loosen_10, e_X5_loosen_11, e_X5_loosen_12, e_X5_loosen_13, e_X5_loosen_14, e_X5_loosen_15, e_X5_loosen_16, e_X5_loosen_17, e_X5_loosen_18, e_X5_loosen_19, e_X5_loosen_20, T.f2, T.lC, T.sC, T1.f3, T1.lV, T1.sV, Option.bind_some]
theorem q_clearAll (T : Tab h t R P C V) {d : Nat} : ∃ h' R', xc XP (d + 1) 44 [.ref t] h = some (none, h') ∧ (∀ k, k < 17 → R' k = -4) ∧ Tab h' t R' P C V ∧ Same h h' (t + 1) (t + 5) := by
  obtain ⟨R', e1, hR⟩ := q_fill (x := -4) T.2.1 (by decide) (d := d)
  refine ⟨_, R', ?_, hR, T.wR R', (Same.refl h _ _).set (by omega) (by omega) _⟩
  rw [n_X5_clearAll]
  simp (disch := omega) only [e_X5_clearAll_0, e_X5_clearAll_1, e_X5_clearAll_2, e_X5_clearAll_3, e_X5_clearAll_4, T.f0, Option.bind_some, e1, xbk_v]
theorem q_copyFromT {t2 : Nat} {R2 P2 C2 V2 : Nat → Int32} (T : Tab h t R P C V) (T2 : Tab h t2 R2 P2 C2 V2) (hd : t + 5 ≤ t2 ∨ t2 + 5 ≤ t) {d : Nat} : ∃ h', xc XP d 45 [.ref t, .ref t2] h = some (none, h') ∧ Tab h' t (va_cpy R2 R 0 0 17) (va_cpy P2 P 0 0 17) (va_cpy C2 C 0 0 17) (va_cpy V2 V 0 0 17) ∧ Same h h' (t + 1) (t + 5) := by
  have s0 := Same.refl h (t + 1) (t + 5)
  have A1 := T.wR (va_cpy R2 R 0 0 17)
  have s1 := s0.set (t := t + 1) (by omega) (by omega) (ia 17 (va_cpy R2 R 0 0 17))
  have B1 := T2.same s1 (by omega)
  have A2 := A1.wP (va_cpy P2 P 0 0 17)
  have s2 := s1.set (t := t + 2) (by omega) (by omega) (ia 17 (va_cpy P2 P 0 0 17))
  have B2 := T2.same s2 (by omega)
  have A3 := A2.wC (va_cpy C2 C 0 0 17)
  have s3 := s2.set (t := t + 3) (by omega) (by omega) (ia 17 (va_cpy C2 C 0 0 17))
  have B3 := T2.same s3 (by omega)
  have A4 := A3.wV (va_cpy V2 V 0 0 17)
  have s4 := s3.set (t := t + 4) (by omega) (by omega) (ia 17 (va_cpy V2 V 0 0 17))
  refine ⟨_, ?_, A4, s4⟩
  have c1 := xcp_ia T2.2.1 T.2.1 (by decide)
  have c2 := xcp_ia B1.2.2.1 A1.2.2.1 (by decide)
  have c3 := xcp_ia B2.2.2.2.1 A2.2.2.2.1 (by decide)
  have c4 := xcp_ia B3.2.2.2.2 A3.2.2.2.2 (by decide)
  rw [n_X5_copyFrom]
  simp (disch := omega) only [e_X5_copyFrom_0, e_X5_copyFrom_1, e_X5_copyFrom_2, e_X5_copyFrom_3, e_X5_copyFrom_4, e_X5_copyFrom_5, e_X5_copyFrom_6, e_X5_copyFrom_7, e_X5_copyFrom_8, e_X5_copyFrom_9, e_X5_copyFrom_10, e_X5_copyFrom_11, e_X5_copyFrom_12, e_X5_copyFrom_13, e_X5_copyFrom_14, e_X5_copyFrom_15, e_X5_copyFrom_16, e_X5_copyFrom_17, e_X5_copyFrom_18, e_X5_copyFrom_19, e_X5_copyFrom_20, e_X5_copyFrom_21, e_X5_copyFrom_22, e_X5_copyFrom_23, e_X5_copyFrom_24, e_X5_copyFrom_25, e_X5_copyFrom_26, e_X5_copyFrom_27, e_X5_copyFrom_28, e_X5_copyFrom_29, e_X5_copyFrom_30, e_X5_copyFrom_31, e_X5_copyFrom_32, T.f0, T2.f0, A1.f1, B1.f1, A2.f2, B2.f2, A3.f3, B3.f3, Option.bind_some, c1, c2, c3, c4]
theorem q_clearRank (T : Tab h t R P C V) {d : Nat} {x : Int32} : ∃ h' R', xc XP (d + 1) 48 [.ref t, .int x] h = some (none, h') ∧ (∀ k, k < 17 → R' k = if k < 16 ∧ R k = x then -4 else R k) ∧ Tab h' t R' P C V ∧ Same h h' (t + 1) (t + 5) := by
  rw [n_X5_clearRank]
  simp only [e_X5_clearRank_0, e_X5_clearRank_1]
  have key : ∀ m j, j + m = 16 → ∀ (h1 : XH) (R1 : Nat → Int32), Tab h1 t R1 P C V → Same h h1 (t + 1) (t + 5) → (∀ k, k < 17 → R1 k = if k < j ∧ R k = x then -4 else R k) →
      ∃ h' R', xe XP (d + 1) 48 (2, [.ref t, .int x, .int (nI j)], [], h1) = some (none, h') ∧ (∀ k, k < 17 → R' k = if k < 16 ∧ R k = x then -4 else R k) ∧ Tab h' t R' P C V ∧ Same h h' (t + 1) (t + 5) := by
    intro m
    induction m with
    | zero =>
      intro j hj h1 R1 T1 s1 hR
      have hj : j = 16 := by omega
      subst hj
      refine ⟨h1, R1, ?_, hR, T1, s1⟩
      simp (disch := omega) only [e_X5_clearRank_2, e_X5_clearRank_3, e_X5_clearRank_4, e_X5_clearRank_16, nI_leI, if_t]
    | succ m ih =>
      intro j hj h1 R1 T1 s1 hR
      have hc := T1.c
      rw [e_X5_clearRank_2]
      have hRj : R1 j = R j := by rw [hR j (by omega)]; simp
      by_cases hx : R j = x
      · obtain ⟨h2, e2, T2, s2⟩ := q_clear T1 (d := d) (k := j) (by omega)
        have hx1 : R1 j = x := by rw [hRj]; exact hx
        simp (disch := first | assumption | omega) only [e_X5_clearRank_3, e_X5_clearRank_4, e_X5_clearRank_5, e_X5_clearRank_6, e_X5_clearRank_7, e_X5_clearRank_8, e_X5_clearRank_9, e_X5_clearRank_10, e_X5_clearRank_11, e_X5_clearRank_12, e_X5_clearRank_13, e_X5_clearRank_14, e_X5_clearRank_15, T1.f0, T1.lR, hx1, Option.bind_some, e2, xbk_v, nI_leI, nI_add, if_f, not_true_eq_false, if_false]
        refine ih (j + 1) (by omega) h2 _ T2 (s1.trans s2) (fun k hk => ?_)
        by_cases hkj : k = j
        · subst hkj
          simp [upd, hx]
        · rw [upd_n hkj, hR k hk]
          by_cases g : R k = x
          · simp [g, show (k < j + 1) = (k < j) by simp; omega]
          · simp [g]
      · have hx1 : ¬ R1 j = x := by rw [hRj]; exact hx
        simp (disch := first | assumption | omega) only [e_X5_clearRank_3, e_X5_clearRank_4, e_X5_clearRank_5, e_X5_clearRank_6, e_X5_clearRank_7, e_X5_clearRank_8, e_X5_clearRank_9, e_X5_clearRank_10, e_X5_clearRank_11, e_X5_clearRank_12, e_X5_clearRank_13, e_X5_clearRank_14, e_X5_clearRank_15, T1.f0, T1.lR, Option.bind_some, nI_leI, nI_add, if_f, if_t]
        refine ih (j + 1) (by omega) h1 R1 T1 s1 (fun k hk => ?_)
        rw [hR k hk]
        by_cases g : R k = x
        · have : k ≠ j := fun e => hx (by rw [← e]; exact g)
          simp [g, show (k < j + 1) = (k < j) by simp; omega]
        · simp [g]
  exact key 16 0 (by omega) h R T (Same.refl _ _ _) (fun k _ => by simp)
end TabW
