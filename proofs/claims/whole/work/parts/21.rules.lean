/-! THE LIST of rules: its reads -/
theorem nx_and (a b : Nat) : nI a &&& nI b = nI (a &&& b) := by
  apply Int32.toBitVec_inj.mp
  show BitVec.ofNat 32 a &&& BitVec.ofNat 32 b = BitVec.ofNat 32 (a &&& b)
  apply BitVec.eq_of_getElem_eq
  intro i hi
  simp
theorem nx_xor (a b : Nat) : nI a ^^^ nI b = nI (a ^^^ b) := by
  apply Int32.toBitVec_inj.mp
  show BitVec.ofNat 32 a ^^^ BitVec.ofNat 32 b = BitVec.ofNat 32 (a ^^^ b)
  apply BitVec.eq_of_getElem_eq
  intro i hi
  simp
theorem nx_or (a b : Nat) : nI a ||| nI b = nI (a ||| b) := by
  apply Int32.toBitVec_inj.mp
  show BitVec.ofNat 32 a ||| BitVec.ofNat 32 b = BitVec.ofNat 32 (a ||| b)
  apply BitVec.eq_of_getElem_eq
  intro i hi
  simp
theorem jdiv {a b : Nat} (ha : a < 2 ^ 31) (h0 : 0 < b) (hb : b < 2 ^ 31) : j_div (nI a) (nI b) = nI (a / b) := pk_div ha h0 hb
theorem jrem {a b : Nat} (ha : a < 2 ^ 31) (h0 : 0 < b) (hb : b < 2 ^ 31) : j_rem (nI a) (nI b) = nI (a % b) := pk_rem ha h0 hb
/-- rank, head, from, to, answer -/
abbrev Rl : Type := Nat × Nat × Nat × Nat × Nat
def rl0 : Rl := (0, 0, 0, 0, 0)
def rlN (l : List Rl) (j : Nat) : Rl := l.getD j rl0
def vh (x : Nat) : Prop := x ≤ 222 ∧ x / 10 % 10 ≤ 2 ∧ x % 10 ≤ 2
def vr (q : Rl) : Prop := q.1 < 100 ∧ vh q.2.1 ∧ q.2.2.1 ≤ q.2.2.2.1 ∧ q.2.2.2.1 < 16 ∧ q.2.2.2.2 < 10
def hbN (x s : Nat) : Nat := (if x / 100 = s then 4 else 0) + (if x / 10 % 10 = s then 2 else 0) + (if x % 10 = s then 1 else 0)
def hcN (x : Nat) : Nat := hbN x 0 + hbN x 1
def hvN (x : Nat) : Nat := hbN x 1
theorem hbN_le (x s : Nat) : hbN x s ≤ 7 := by unfold hbN; split <;> split <;> split <;> omega
theorem q_headBits {d x s : Nat} {h : XH} (hx : x < 2 ^ 31) (hs : s < 2 ^ 31) : xc XP d 23 [.int (nI x), .int (nI s)] h = some (some (.int (nI (hbN x s))), h) := by
  rw [n_X3_headBits]
  have h1 : x / 10 < 2 ^ 31 := by omega
  simp (disch := omega) only [e_X3_headBits_0, e_X3_headBits_1, e_X3_headBits_2, e_X3_headBits_3, e_X3_headBits_4, e_X3_headBits_5, e_X3_headBits_6, e_X3_headBits_7, e_X3_headBits_8, e_X3_headBits_9, e_X3_headBits_10, e_X3_headBits_11, e_X3_headBits_12, e_X3_headBits_13, e_X3_headBits_14, e_X3_headBits_15, e_X3_headBits_16, e_X3_headBits_17, e_X3_headBits_18, e_X3_headBits_19, e_X3_headBits_20, e_X3_headBits_21, e_X3_headBits_22, e_X3_headBits_23, e_X3_headBits_24, e_X3_headBits_25, e_X3_headBits_26, e_X3_headBits_27, e_X3_headBits_28, e_X3_headBits_29, e_X3_headBits_30, e_X3_headBits_31, e_X3_headBits_32, jdiv, jrem, nI_eq, nI_add]
  unfold hbN
  by_cases a1 : x / 100 = s <;> by_cases a2 : x / 10 % 10 = s <;> by_cases a3 : x % 10 = s <;> simp [a1, a2, a3]
def Lst (h : XH) (r : Nat) (l : List Rl) : Prop := l.length ≤ 16 ∧ (∀ q ∈ l, vr q) ∧
  h[r]? = some (.inl (3, [.int (nI l.length), .ref (r + 1), .ref (r + 2), .ref (r + 3), .ref (r + 4), .ref (r + 5), .ref (r + 6), .ref (r + 7)])) ∧
  ∃ K H Hc Hv F L A : Nat → Int32, h[r + 1]? = some (ia 16 K) ∧ h[r + 2]? = some (ia 16 H) ∧ h[r + 3]? = some (ia 16 Hc) ∧ h[r + 4]? = some (ia 16 Hv) ∧ h[r + 5]? = some (ia 16 F) ∧ h[r + 6]? = some (ia 16 L) ∧ h[r + 7]? = some (ia 16 A) ∧
    ∀ j, j < l.length → K j = nI (rlN l j).1 ∧ H j = nI (rlN l j).2.1 ∧ Hc j = nI (hcN (rlN l j).2.1) ∧ Hv j = nI (hvN (rlN l j).2.1) ∧ F j = nI (rlN l j).2.2.1 ∧ L j = nI (rlN l j).2.2.2.1 ∧ A j = nI (rlN l j).2.2.2.2
theorem rlN_mem {l : List Rl} {j : Nat} (hj : j < l.length) : rlN l j ∈ l := by
  unfold rlN
  rw [List.getD_eq_getElem?_getD, List.getElem?_eq_getElem hj]
  exact List.getElem_mem hj
section RLR
variable {h : XH} {r : Nat} {l : List Rl}
theorem Lst.v (L : Lst h r l) {j : Nat} (hj : j < l.length) : vr (rlN l j) := L.2.1 _ (rlN_mem hj)
theorem Lst.c (L : Lst h r l) : xcls h (.ref r) = some 3 := xcls_o L.2.2.1
theorem Lst.f0 (L : Lst h r l) : xgf h r 3 0 = some (.int (nI l.length)) := xgf_o L.2.2.1 0
theorem Lst.f1 (L : Lst h r l) : xgf h r 3 1 = some (.ref (r + 1)) := xgf_o L.2.2.1 1
theorem Lst.f2 (L : Lst h r l) : xgf h r 3 2 = some (.ref (r + 2)) := xgf_o L.2.2.1 2
theorem Lst.f3 (L : Lst h r l) : xgf h r 3 3 = some (.ref (r + 3)) := xgf_o L.2.2.1 3
theorem Lst.f4 (L : Lst h r l) : xgf h r 3 4 = some (.ref (r + 4)) := xgf_o L.2.2.1 4
theorem Lst.f5 (L : Lst h r l) : xgf h r 3 5 = some (.ref (r + 5)) := xgf_o L.2.2.1 5
theorem Lst.f6 (L : Lst h r l) : xgf h r 3 6 = some (.ref (r + 6)) := xgf_o L.2.2.1 6
theorem Lst.f7 (L : Lst h r l) : xgf h r 3 7 = some (.ref (r + 7)) := xgf_o L.2.2.1 7
theorem Lst.lK (L : Lst h r l) (j : Nat) (hj : j < l.length) : xld h (r + 1) 0 (nI j) = some (nI (rlN l j).1) := by
  obtain ⟨h16, -, -, K, H, Hc, Hv, F, La, A, e1, e2, e3, e4, e5, e6, e7, hv⟩ := L
  rw [xld_ia e1 (by decide) (by omega), (hv j hj).1]
theorem Lst.lH (L : Lst h r l) (j : Nat) (hj : j < l.length) : xld h (r + 2) 0 (nI j) = some (nI (rlN l j).2.1) := by
  obtain ⟨h16, -, -, K, H, Hc, Hv, F, La, A, e1, e2, e3, e4, e5, e6, e7, hv⟩ := L
  rw [xld_ia e2 (by decide) (by omega), (hv j hj).2.1]
theorem Lst.lHc (L : Lst h r l) (j : Nat) (hj : j < l.length) : xld h (r + 3) 0 (nI j) = some (nI (hcN (rlN l j).2.1)) := by
  obtain ⟨h16, -, -, K, H, Hc, Hv, F, La, A, e1, e2, e3, e4, e5, e6, e7, hv⟩ := L
  rw [xld_ia e3 (by decide) (by omega), (hv j hj).2.2.1]
theorem Lst.lHv (L : Lst h r l) (j : Nat) (hj : j < l.length) : xld h (r + 4) 0 (nI j) = some (nI (hvN (rlN l j).2.1)) := by
  obtain ⟨h16, -, -, K, H, Hc, Hv, F, La, A, e1, e2, e3, e4, e5, e6, e7, hv⟩ := L
  rw [xld_ia e4 (by decide) (by omega), (hv j hj).2.2.2.1]
theorem Lst.lF (L : Lst h r l) (j : Nat) (hj : j < l.length) : xld h (r + 5) 0 (nI j) = some (nI (rlN l j).2.2.1) := by
  obtain ⟨h16, -, -, K, H, Hc, Hv, F, La, A, e1, e2, e3, e4, e5, e6, e7, hv⟩ := L
  rw [xld_ia e5 (by decide) (by omega), (hv j hj).2.2.2.2.1]
theorem Lst.lL (L : Lst h r l) (j : Nat) (hj : j < l.length) : xld h (r + 6) 0 (nI j) = some (nI (rlN l j).2.2.2.1) := by
  obtain ⟨h16, -, -, K, H, Hc, Hv, F, La, A, e1, e2, e3, e4, e5, e6, e7, hv⟩ := L
  rw [xld_ia e6 (by decide) (by omega), (hv j hj).2.2.2.2.2.1]
theorem Lst.lA (L : Lst h r l) (j : Nat) (hj : j < l.length) : xld h (r + 7) 0 (nI j) = some (nI (rlN l j).2.2.2.2) := by
  obtain ⟨h16, -, -, K, H, Hc, Hv, F, La, A, e1, e2, e3, e4, e5, e6, e7, hv⟩ := L
  rw [xld_ia e7 (by decide) (by omega), (hv j hj).2.2.2.2.2.2]
theorem Lst.same {h' : XH} (L : Lst h r l) {lo hi : Nat} (s : Same h h' lo hi) (hd : r + 8 ≤ lo ∨ hi ≤ r) : Lst h' r l := by
  obtain ⟨h16, hv, e0, K, H, Hc, Hv, F, La, A, e1, e2, e3, e4, e5, e6, e7, hj⟩ := L
  exact ⟨h16, hv, by rw [s.2 _ (by omega)]; exact e0, K, H, Hc, Hv, F, La, A, by rw [s.2 _ (by omega)]; exact e1, by rw [s.2 _ (by omega)]; exact e2, by rw [s.2 _ (by omega)]; exact e3, by rw [s.2 _ (by omega)]; exact e4, by rw [s.2 _ (by omega)]; exact e5, by rw [s.2 _ (by omega)]; exact e6, by rw [s.2 _ (by omega)]; exact e7, hj⟩
/-- the number of the rule of a rank -/
def nofR (l : List Rl) (k : Nat) : Option Nat := fup (fun j => decide ((rlN l j).1 = k)) 0 l.length
theorem q_numberOf (L : Lst h r l) {d k : Nat} (hk : k < 2 ^ 31) : xc XP d 21 [.ref r, .int (nI k)] h = some (some (.int (oI (nofR l k))), h) := by
  have h16 := L.1
  rw [n_X3_numberOf]
  simp only [e_X3_numberOf_0, e_X3_numberOf_1]
  have key := loop_fup (fun j => xe XP d 21 (2, [.ref r, .int (nI k), .int (nI j)], [], h)) (fun j => decide ((rlN l j).1 = k)) (fun s => some (some (.int (nI s)), h)) l.length (by
    intro j hj
    have hv := (L.v hj).1
    rw [e_X3_numberOf_2]
    simp (disch := first | assumption | omega) only [e_X3_numberOf_3, e_X3_numberOf_4, e_X3_numberOf_5, e_X3_numberOf_6, e_X3_numberOf_7, e_X3_numberOf_8, e_X3_numberOf_9, e_X3_numberOf_10, e_X3_numberOf_11, e_X3_numberOf_12, e_X3_numberOf_13, e_X3_numberOf_14, e_X3_numberOf_15, L.f0, L.f1, L.lK, Option.bind_some, nI_leI, nI_add, nI_eq, if_f]
    by_cases g : (rlN l j).1 = k <;> simp [g]) l.length 0 (by omega)
  rw [key]
  unfold nofR
  cases fup (fun j => decide ((rlN l j).1 = k)) 0 l.length with
  | some s => rfl
  | none =>
    simp (disch := omega) only [e_X3_numberOf_2, e_X3_numberOf_3, e_X3_numberOf_4, e_X3_numberOf_5, e_X3_numberOf_16, e_X3_numberOf_17, L.f0, Option.bind_some, nI_leI, if_t]
    rfl
/-- the answer of a rule, none is -4 -/
def ansR (l : List Rl) (o : Option Nat) : Int32 := match o with
  | some j => nI (rlN l j).2.2.2.2
  | none => -4
theorem q_answerOfR (L : Lst h r l) {d : Nat} {o : Option Nat} (ho : ∀ j, o = some j → j < l.length) : xc XP d 22 [.ref r, .int (oI o)] h = some (some (.int (ansR l o)), h) := by
  have h16 := L.1
  rw [n_X3_answerOf]
  cases o with
  | none =>
    simp only [oI_none, e_X3_answerOf_0, e_X3_answerOf_1, e_X3_answerOf_2, e_X3_answerOf_3, e_X3_answerOf_4, e_X3_answerOf_5, e_X3_answerOf_6, e_X3_answerOf_7, e_X3_answerOf_8, e_X3_answerOf_9, e_X3_answerOf_10, e_X3_answerOf_11, e_X3_answerOf_12, m4_lt0, if_true]
    rfl
  | some j =>
    have hj := ho j rfl
    simp (disch := first | assumption | omega) only [oI_some, e_X3_answerOf_0, e_X3_answerOf_1, e_X3_answerOf_2, e_X3_answerOf_3, e_X3_answerOf_4, e_X3_answerOf_5, e_X3_answerOf_6, e_X3_answerOf_7, e_X3_answerOf_8, e_X3_answerOf_9, e_X3_answerOf_10, e_X3_answerOf_11, e_X3_answerOf_12, L.f0, L.f7, L.lA, Option.bind_some, nI_lt0, nI_leI, if_f]
    rfl
/-- a rule has a key -/
def hasR (q : Rl) (k : Nat) : Bool := decide (q.2.2.1 ≤ k % 16) && (decide (k % 16 ≤ q.2.2.2.1) && decide ((k / 16 ^^^ hvN q.2.1) &&& hcN q.2.1 = 0))
theorem q_has (L : Lst h r l) {d j k : Nat} (hj : j < l.length) (hk : k < 128) : xc XP d 24 [.ref r, .int (nI j), .int (nI k)] h = some (some (.int (bI (hasR (rlN l j) k))), h) := by
  have h16 := L.1
  obtain ⟨v1, v2, v3, v4, v5⟩ := L.v hj
  rw [n_X3_has]
  have hb1 : (k / 16 ^^^ hvN (rlN l j).2.1) &&& hcN (rlN l j).2.1 < 2 ^ 31 := Nat.lt_of_le_of_lt Nat.and_le_right (by unfold hcN; have := hbN_le (rlN l j).2.1 0; have := hbN_le (rlN l j).2.1 1; omega)
  simp (disch := first | assumption | omega) only [e_X3_has_0, e_X3_has_1, e_X3_has_2, e_X3_has_3, e_X3_has_4, e_X3_has_5, e_X3_has_6, e_X3_has_7, e_X3_has_8, e_X3_has_9, e_X3_has_10, e_X3_has_11, e_X3_has_12, e_X3_has_13, e_X3_has_14, e_X3_has_15, e_X3_has_16, e_X3_has_17, e_X3_has_18, e_X3_has_19, e_X3_has_20, e_X3_has_21, e_X3_has_22, e_X3_has_23, e_X3_has_24, e_X3_has_25, e_X3_has_26, e_X3_has_27, e_X3_has_28, e_X3_has_29, e_X3_has_30, e_X3_has_31, e_X3_has_32, e_X3_has_33, e_X3_has_34, e_X3_has_35, L.f3, L.f4, L.f5, L.f6, L.lF, L.lL, L.lHc, L.lHv, Option.bind_some, jrem, jdiv, nx_and, nx_xor, nI_ltI, nI_leI, nI_eq, rk_0, rk_1, if_t]
  unfold hasR
  generalize rlN l j = q
  by_cases g1 : k % 16 < q.2.2.1
  · simp [g1, bI, Nat.not_le.mpr g1]
  · by_cases g2 : k % 16 ≤ q.2.2.2.1
    · by_cases g3 : (k / 16 ^^^ hvN q.2.1) &&& hcN q.2.1 = 0 <;> simp [g1, g2, g3, bI, Nat.not_lt.mp g1]
    · simp [g1, g2, bI]
/-- the rule by which the list answers, one left out -/
def btr (l : List Rl) (j : Nat) (b : Option Nat) : Bool := match b with
  | none => true
  | some i => decide ((rlN l j).1 < (rlN l i).1)
def lsF (l : List Rl) (but : Option Nat) (k : Nat) (j : Nat) (b : Option Nat) : Option Nat := if (decide (¬ some j = but) && (btr l j b && hasR (rlN l j) k)) = true then some j else b
def lsB (l : List Rl) (but : Option Nat) (k : Nat) : Option Nat := itr (lsF l but k) none l.length
theorem lsB_lt {l : List Rl} {but : Option Nat} {k : Nat} : ∀ n j, itr (lsF l but k) none n = some j → j < n := by
  intro n
  induction n with
  | zero => intro j h; cases h
  | succ n ih =>
    intro j h
    have h : lsF l but k n (itr (lsF l but k) none n) = some j := h
    unfold lsF at h
    split at h
    · cases h; omega
    · have := ih j h; omega
theorem q_answeringRuleBut (L : Lst h r l) {d k : Nat} {but : Option Nat} (hb : ∀ j, but = some j → j < l.length) (hk : k < 128) : xc XP (d + 1) 26 [.ref r, .int (oI but), .int (nI k)] h = some (some (.int (oI (lsB l but k))), h) := by
  have h16 := L.1
  have hc := L.c
  rw [n_X3_answeringRuleBut]
  simp only [e_X3_answeringRuleBut_0, e_X3_answeringRuleBut_1, e_X3_answeringRuleBut_2, e_X3_answeringRuleBut_3]
  have key := loop_itr (fun j b => xe XP (d + 1) 26 (4, [.ref r, .int (oI but), .int (nI k), .int (oI b), .int (nI j)], [], h)) (lsF l but k) none l.length (by
    intro j hj
    have hlt := lsB_lt (l := l) (but := but) (k := k) j
    generalize itr (lsF l but k) none j = b at hlt
    have hv := (L.v hj).1
    rw [e_X3_answeringRuleBut_4]
    have hbut : (nI j = oI but) = (some j = but) := by
      cases but with
      | none => simp [oI, nI_n4 (show j < 2 ^ 31 by omega)]
      | some i =>
        have := hb i rfl
        simp only [oI_some, Option.some.injEq, eq_iff_iff]
        exact nI_eq (by omega) (by omega)
    cases b with
    | none =>
      simp (disch := first | assumption | omega) only [e_X3_answeringRuleBut_5, e_X3_answeringRuleBut_6, e_X3_answeringRuleBut_7, e_X3_answeringRuleBut_8, e_X3_answeringRuleBut_9, e_X3_answeringRuleBut_10, e_X3_answeringRuleBut_11, e_X3_answeringRuleBut_12, e_X3_answeringRuleBut_13, e_X3_answeringRuleBut_14, e_X3_answeringRuleBut_15, e_X3_answeringRuleBut_16, e_X3_answeringRuleBut_17, e_X3_answeringRuleBut_18, e_X3_answeringRuleBut_19, e_X3_answeringRuleBut_20, e_X3_answeringRuleBut_21, e_X3_answeringRuleBut_22, e_X3_answeringRuleBut_23, e_X3_answeringRuleBut_24, e_X3_answeringRuleBut_25, e_X3_answeringRuleBut_26, e_X3_answeringRuleBut_27, e_X3_answeringRuleBut_28, e_X3_answeringRuleBut_29, e_X3_answeringRuleBut_30, L.f0, Option.bind_some, nI_leI, nI_add, if_f, hbut, oI_none, m4_lt0, if_true, q_has L, xbk_i, bI_0]
      unfold lsF
      by_cases g : some j = but <;> cases hasR (rlN l j) k <;> simp [g, oI, btr]
    | some i =>
      have hij := hlt i rfl
      have hvi := (L.v (show i < l.length by omega)).1
      simp (disch := first | assumption | omega) only [e_X3_answeringRuleBut_5, e_X3_answeringRuleBut_6, e_X3_answeringRuleBut_7, e_X3_answeringRuleBut_8, e_X3_answeringRuleBut_9, e_X3_answeringRuleBut_10, e_X3_answeringRuleBut_11, e_X3_answeringRuleBut_12, e_X3_answeringRuleBut_13, e_X3_answeringRuleBut_14, e_X3_answeringRuleBut_15, e_X3_answeringRuleBut_16, e_X3_answeringRuleBut_17, e_X3_answeringRuleBut_18, e_X3_answeringRuleBut_19, e_X3_answeringRuleBut_20, e_X3_answeringRuleBut_21, e_X3_answeringRuleBut_22, e_X3_answeringRuleBut_23, e_X3_answeringRuleBut_24, e_X3_answeringRuleBut_25, e_X3_answeringRuleBut_26, e_X3_answeringRuleBut_27, e_X3_answeringRuleBut_28, e_X3_answeringRuleBut_29, e_X3_answeringRuleBut_30, L.f0, L.f1, L.lK, Option.bind_some, nI_leI, nI_add, if_f, hbut, oI_some, nI_lt0, q_has L, xbk_i, bI_0]
      unfold lsF
      by_cases g : some j = but
      · simp [g, oI]
      · by_cases g2 : (rlN l i).1 ≤ (rlN l j).1
        · simp [g, g2, oI, btr, Nat.not_lt.mpr g2]
        · cases hasR (rlN l j) k <;> simp [g, g2, oI, btr, Nat.not_le.mp g2]) l.length (Nat.le_refl _)
  rw [show (-4 : Int32) = oI none from rfl, key]
  simp (disch := first | assumption | omega) only [e_X3_answeringRuleBut_4, e_X3_answeringRuleBut_5, e_X3_answeringRuleBut_6, e_X3_answeringRuleBut_7, e_X3_answeringRuleBut_31, e_X3_answeringRuleBut_32, L.f0, Option.bind_some, nI_leI, if_t]
  rfl
theorem q_answeringRule (L : Lst h r l) {d k : Nat} (hk : k < 128) : xc XP (d + 2) 25 [.ref r, .int (nI k)] h = some (some (.int (oI (lsB l none k))), h) := by
  have hc := L.c
  have q := q_answeringRuleBut L (d := d) (but := none) (fun j hj => by cases hj) hk
  rw [oI_none] at q
  rw [n_X3_answeringRule]
  simp (disch := first | assumption | omega) only [e_X3_answeringRule_0, e_X3_answeringRule_1, e_X3_answeringRule_2, e_X3_answeringRule_3, e_X3_answeringRule_4, q, xbk_i]
end RLR
/-- how many tails the first piece of a span has -/
def psz (f t : Nat) : Nat := if f % 16 = 0 ∧ f + 15 ≤ t then 16 else if f % 8 = 0 ∧ f + 7 ≤ t then 8 else if f % 4 = 0 ∧ f + 3 ≤ t then 4 else if f % 2 = 0 ∧ f + 1 ≤ t then 2 else 1
theorem psz_pos (f t : Nat) : 1 ≤ psz f t ∧ psz f t ≤ 16 := by unfold psz; constructor <;> (repeat' split) <;> omega
theorem q_pieceSize {d f t : Nat} {h : XH} (hf : f < 1000) (ht : t < 1000) : xc XP d 109 [.int (nI f), .int (nI t)] h = some (some (.int (nI (psz f t))), h) := by
  rw [n_X7_pieceSize]
  have step : ∀ z, 1 < z → z ≤ 16 → xe XP d 109 (2, [.int (nI f), .int (nI t), .int (nI z)], [], h) = if f % z = 0 ∧ f + (z - 1) ≤ t then some (some (.int (nI z)), h) else xe XP d 109 (2, [.int (nI f), .int (nI t), .int (nI (z / 2))], [], h) := by
    intro z hz1 hz2
    have hz0 : ¬ nI z = 0 := nI_ne0 (by omega) (by omega)
    have hm : f % z < 2 ^ 31 := Nat.lt_of_le_of_lt (Nat.mod_le _ _) (by omega)
    rw [e_X7_pieceSize_2]
    simp (disch := first | assumption | omega) only [e_X7_pieceSize_3, e_X7_pieceSize_4, e_X7_pieceSize_5, e_X7_pieceSize_6, e_X7_pieceSize_7, e_X7_pieceSize_8, e_X7_pieceSize_9, e_X7_pieceSize_10, e_X7_pieceSize_11, e_X7_pieceSize_12, e_X7_pieceSize_13, e_X7_pieceSize_14, e_X7_pieceSize_15, e_X7_pieceSize_16, e_X7_pieceSize_17, e_X7_pieceSize_18, e_X7_pieceSize_19, e_X7_pieceSize_20, e_X7_pieceSize_21, e_X7_pieceSize_22, nI_leI, nI_ltI, nI_eq, jdiv, jrem, nI_add, pk_sub, if_f]
    rw [show f + z - 1 = f + (z - 1) by omega]
    by_cases g2 : t < f + (z - 1)
    · by_cases g1 : f % z = 0 <;> simp [g1, g2, Nat.not_le.mpr g2]
    · by_cases g1 : f % z = 0 <;> simp [g1, g2, Nat.not_lt.mp g2]
  simp only [e_X7_pieceSize_0, e_X7_pieceSize_1]
  rw [step 16 (by omega) (by omega), step 8 (by omega) (by omega), step 4 (by omega) (by omega), step 2 (by omega) (by omega)]
  simp (disch := omega) only [e_X7_pieceSize_2, e_X7_pieceSize_3, e_X7_pieceSize_4, e_X7_pieceSize_23, e_X7_pieceSize_24, nI_leI, if_t]
  unfold psz
  repeat' (split <;> try rfl)
def rwF : Nat → Nat → Nat → Nat
  | 0, _, _ => 0
  | k + 1, f, t => if f ≤ t then 1 + rwF k (f + psz f t) t else 0
theorem q_rowsOfSpan {d f t : Nat} {h : XH} (hf : f < 16) (ht : t < 16) : xc XP (d + 1) 110 [.int (nI f), .int (nI t)] h = some (some (.int (nI (rwF 6 f t))), h) := by
  rw [n_X7_rowsOfSpan]
  simp only [e_X7_rowsOfSpan_0, e_X7_rowsOfSpan_1, e_X7_rowsOfSpan_2, e_X7_rowsOfSpan_3]
  have key : ∀ m c g, c + m = 6 → g ≤ 16 * (c + 1) → xe XP (d + 1) 110 (4, [.int (nI f), .int (nI t), .int (nI c), .int (nI g)], [], h) = some (some (.int (nI (c + rwF m g t))), h) := by
    intro m
    induction m with
    | zero =>
      intro c g hc hg
      rw [show c = 6 by omega]
      by_cases g1 : t < g
      · simp (disch := omega) only [e_X7_rowsOfSpan_4, e_X7_rowsOfSpan_5, e_X7_rowsOfSpan_6, e_X7_rowsOfSpan_7, e_X7_rowsOfSpan_8, e_X7_rowsOfSpan_9, e_X7_rowsOfSpan_18, e_X7_rowsOfSpan_19, nI_ltI, nI_leI, if_t]
        rfl
      · simp (disch := omega) only [e_X7_rowsOfSpan_4, e_X7_rowsOfSpan_5, e_X7_rowsOfSpan_6, e_X7_rowsOfSpan_7, e_X7_rowsOfSpan_8, e_X7_rowsOfSpan_9, e_X7_rowsOfSpan_18, e_X7_rowsOfSpan_19, nI_ltI, nI_leI, if_t, if_f]
        rfl
    | succ m ih =>
      intro c g hc hg
      rw [e_X7_rowsOfSpan_4]
      have hp := psz_pos g t
      unfold rwF
      by_cases g1 : t < g
      · simp (disch := omega) only [e_X7_rowsOfSpan_5, e_X7_rowsOfSpan_6, e_X7_rowsOfSpan_7, e_X7_rowsOfSpan_8, e_X7_rowsOfSpan_9, e_X7_rowsOfSpan_18, e_X7_rowsOfSpan_19, nI_ltI, nI_leI, if_t, if_f]
        rfl
      · simp (disch := omega) only [e_X7_rowsOfSpan_5, e_X7_rowsOfSpan_6, e_X7_rowsOfSpan_7, e_X7_rowsOfSpan_8, e_X7_rowsOfSpan_9, e_X7_rowsOfSpan_10, e_X7_rowsOfSpan_11, e_X7_rowsOfSpan_12, e_X7_rowsOfSpan_13, e_X7_rowsOfSpan_14, e_X7_rowsOfSpan_15, e_X7_rowsOfSpan_16, e_X7_rowsOfSpan_17, nI_ltI, nI_leI, if_f, if_t, q_pieceSize, xbk_i, nI_add]
        rw [ih (c + 1) _ (by omega) (by omega), Nat.add_assoc]
  have := key 6 0 f (by omega) (by omega)
  rw [Nat.zero_add] at this
  exact this
