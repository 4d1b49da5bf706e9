/-! A BOARD: the list of rules and the table -/
theorem hcN_le (x : Nat) : hcN x ≤ 7 := by
  unfold hcN hbN
  have e1 : (if x / 100 = 0 then 4 else 0) + (if x / 100 = 1 then 4 else 0) ≤ 4 := by split <;> split <;> omega
  have e2 : (if x / 10 % 10 = 0 then 2 else 0) + (if x / 10 % 10 = 1 then 2 else 0) ≤ 2 := by split <;> split <;> omega
  have e3 : (if x % 10 = 0 then 1 else 0) + (if x % 10 = 1 then 1 else 0) ≤ 1 := by split <;> split <;> omega
  omega
/-- the first tail of a piece -/
def tlF : Nat → Nat → Nat → Nat
  | 0, f, _ => f
  | p + 1, f, t => tlF p (f + psz f t) t
def tlN (q : Rl) (p : Nat) : Nat := tlF p q.2.2.1 q.2.2.2.1
/-- which bits of a row count, what they are, by the first tail of its piece -/
def cwT (q : Rl) (u : Nat) : Nat := hcN q.2.1 * 16 + (16 - psz u q.2.2.2.1)
def vwT (q : Rl) (u : Nat) : Nat := (hvN q.2.1 * 16 + u) &&& cwT q u
def rwC (q : Rl) (p : Nat) : Nat := cwT q (tlN q p)
def rwV (q : Rl) (p : Nat) : Nat := vwT q (tlN q p)
theorem cwT_lt (q : Rl) (u : Nat) : cwT q u < 128 := by
  unfold cwT
  have := hcN_le q.2.1
  have := psz_pos u q.2.2.2.1
  omega
theorem vwT_lt (q : Rl) (u : Nat) : vwT q u < 128 := Nat.lt_of_le_of_lt Nat.and_le_right (cwT_lt q u)
theorem vwT_c (q : Rl) (u : Nat) : vwT q u &&& cwT q u = vwT q u := by
  unfold vwT
  rw [Nat.and_assoc, Nat.and_self]
def Bd (h : XH) (b : Nat) (l : List Rl) (R P C V : Nat → Int32) : Prop := h[b]? = some (.inl (0, [.ref (b + 1), .ref (b + 9)])) ∧ Lst h (b + 1) l ∧ Tab h (b + 9) R P C V
section BdR
variable {h : XH} {b : Nat} {l : List Rl} {R P C V : Nat → Int32}
theorem Bd.c (B : Bd h b l R P C V) : xcls h (.ref b) = some 0 := xcls_o B.1
theorem Bd.f0 (B : Bd h b l R P C V) : xgf h b 0 0 = some (.ref (b + 1)) := xgf_o B.1 0
theorem Bd.f1 (B : Bd h b l R P C V) : xgf h b 0 1 = some (.ref (b + 9)) := xgf_o B.1 1
theorem Bd.L (B : Bd h b l R P C V) : Lst h (b + 1) l := B.2.1
theorem Bd.T (B : Bd h b l R P C V) : Tab h (b + 9) R P C V := B.2.2
theorem Bd.same {h' : XH} (B : Bd h b l R P C V) {lo hi : Nat} (s : Same h h' lo hi) (hd : b + 14 ≤ lo ∨ hi ≤ b) : Bd h' b l R P C V :=
  ⟨by rw [s.2 _ (by omega)]; exact B.1, B.L.same s (by omega), B.T.same s (by omega)⟩
theorem Bd.setT {h' : XH} {R' P' C' V' : Nat → Int32} (B : Bd h b l R P C V) (T' : Tab h' (b + 9) R' P' C' V') (s : Same h h' (b + 10) (b + 14)) : Bd h' b l R' P' C' V' :=
  ⟨by rw [s.2 _ (by omega)]; exact B.1, B.L.same s (by omega), T'⟩
theorem Bd.setL {h' : XH} {l' : List Rl} (B : Bd h b l R P C V) (L' : Lst h' (b + 1) l') (s : Same h h' (b + 1) (b + 9)) : Bd h' b l' R P C V :=
  ⟨by rw [s.2 _ (by omega)]; exact B.1, L', B.T.same s (by omega)⟩
theorem q_copyFromB {b2 : Nat} {l2 : List Rl} {R2 P2 C2 V2 : Nat → Int32} (B : Bd h b l R P C V) (B2 : Bd h b2 l2 R2 P2 C2 V2) (hd : b + 14 ≤ b2 ∨ b2 + 14 ≤ b) {d : Nat} : ∃ h', xc XP (d + 1) 1 [.ref b, .ref b2] h = some (none, h') ∧ Bd h' b l2 (va_cpy R2 R 0 0 17) (va_cpy P2 P 0 0 17) (va_cpy C2 C 0 0 17) (va_cpy V2 V 0 0 17) ∧ Same h h' b (b + 14) := by
  obtain ⟨h1, e1, L1, s1⟩ := q_copyFromR B.L B2.L (by omega) (d := d)
  have B1 := B.setL L1 (s1.weak (by omega) (by omega))
  have B21 := B2.same s1 (by omega)
  obtain ⟨h2, e2, T2, s2⟩ := q_copyFromT B1.T B21.T (by omega) (d := d)
  refine ⟨h2, ?_, B1.setT T2 (s2.weak (by omega) (by omega)), (s1.weak (by omega) (by omega)).trans (s2.weak (by omega) (by omega))⟩
  have c1 := B.L.c
  have c2 := B1.T.c
  rw [n_X0_copyFrom]
  simp (disch := first | assumption | omega) only [e_X0_copyFrom_0, e_X0_copyFrom_1, e_X0_copyFrom_2, e_X0_copyFrom_3, e_X0_copyFrom_4, e_X0_copyFrom_5, e_X0_copyFrom_6, e_X0_copyFrom_7, e_X0_copyFrom_8, e_X0_copyFrom_9, e_X0_copyFrom_10, B.f0, B.f1, B2.f0, B2.f1, B1.f0, B1.f1, B21.f0, B21.f1, Option.bind_some, e1, e2, xbk_v]
theorem q_isSlot {d : Nat} {x : Int32} {h : XH} : xc XP d 99 [.int x] h = some (some (.int (bI (decide (¬ x < nI 0) && decide (x < nI 16)))), h) := by
  rw [n_X7_isSlot]
  simp only [e_X7_isSlot_0, e_X7_isSlot_1, e_X7_isSlot_2, e_X7_isSlot_3, e_X7_isSlot_4, e_X7_isSlot_5, e_X7_isSlot_6, e_X7_isSlot_7, e_X7_isSlot_8, rk_0, rk_1, if_true]
  by_cases g1 : x < nI 0
  · simp [g1, bI]
  · by_cases g2 : nI 16 ≤ x
    · simp [g1, g2, bI, Int32.not_lt.mpr g2]
    · simp [g1, g2, bI, Int32.not_le.mp g2]
theorem isS_nI {s : Nat} (hs : s < 16) : (decide (¬ nI s < nI 0) && decide (nI s < nI 16)) = true := by
  simp [nI_lt0 (show s < 2 ^ 31 by omega), (nI_ltI (show s < 2 ^ 31 by omega) (show 16 < 2 ^ 31 by decide)).mpr hs]
/-- a row of a rule is put -/
theorem q_putRow (B : Bd h b l R P C V) {d k j p u : Nat} (hk : k < 17) (hj : j < l.length) (hp : p < 100) (hu : u < 100) : ∃ h', xc XP (d + 1) 3 [.ref b, .int (nI k), .int (nI j), .int (nI p), .int (nI u)] h = some (none, h') ∧ Bd h' b l (upd R k (nI (rlN l j).1)) (upd P k (nI p)) (upd C k (nI (cwT (rlN l j) u))) (upd V k (nI (vwT (rlN l j) u))) ∧ Same h h' (b + 10) (b + 14) := by
  obtain ⟨v1, v2, v3, v4, v5⟩ := B.L.v hj
  have hp2 := psz_pos u (rlN l j).2.2.2.1
  have hcl := hcN_le (rlN l j).2.1
  have hvl : hvN (rlN l j).2.1 ≤ 7 := hbN_le _ _
  obtain ⟨h1, e1, T1, s1⟩ := q_put B.T (d := d) hk (rk := nI (rlN l j).1) (pi := nI p) (ca := nI (cwT (rlN l j) u)) (va := nI (hvN (rlN l j).2.1 * 16 + u))
  rw [nx_and] at T1
  refine ⟨h1, ?_, B.setT T1 (s1.weak (by omega) (by omega)), s1.weak (by omega) (by omega)⟩
  have c1 := B.T.c
  have e1 : xc XP d 49 [.ref (b + 9), .int (nI k), .int (nI (rlN l j).1), .int (nI p), .int (nI (hcN (rlN l j).2.1 * 16 + (16 - psz u (rlN l j).2.2.2.1))), .int (nI (hvN (rlN l j).2.1 * 16 + u))] h = some (none, h1) := e1
  rw [n_X0_putRow]
  simp (disch := first | assumption | omega) only [e_X0_putRow_0, e_X0_putRow_1, e_X0_putRow_2, e_X0_putRow_3, e_X0_putRow_4, e_X0_putRow_5, e_X0_putRow_6, e_X0_putRow_7, e_X0_putRow_8, e_X0_putRow_9, e_X0_putRow_10, e_X0_putRow_11, e_X0_putRow_12, e_X0_putRow_13, e_X0_putRow_14, e_X0_putRow_15, e_X0_putRow_16, e_X0_putRow_17, e_X0_putRow_18, e_X0_putRow_19, e_X0_putRow_20, e_X0_putRow_21, e_X0_putRow_22, e_X0_putRow_23, e_X0_putRow_24, e_X0_putRow_25, e_X0_putRow_26, e_X0_putRow_27, e_X0_putRow_28, e_X0_putRow_29, e_X0_putRow_30, e_X0_putRow_31, e_X0_putRow_32, e_X0_putRow_33, e_X0_putRow_34, e_X0_putRow_35, e_X0_putRow_36, e_X0_putRow_37, e_X0_putRow_38, e_X0_putRow_39, e_X0_putRow_40, B.f0, B.f1, B.L.f1, B.L.f3, B.L.f4, B.L.f6, B.L.lL, B.L.lK, B.L.lHc, B.L.lHv, Option.bind_some, q_pieceSize, xbk_i, pk_sub, pk_mul, nI_add, e1, xbk_v]
end BdR
/-- the slots of a table: which rule, which of its rows -/
abbrev Sl : Type := Nat → Option (Nat × Nat)
/-- the row of a place is that of a rule -/
def rowIs (l : List Rl) (R P C V : Nat → Int32) (s : Nat) (x : Nat × Nat) : Prop := x.1 < l.length ∧ x.2 < rwR (rlN l x.1) ∧ R s = nI (rlN l x.1).1 ∧ P s = nI x.2 ∧ C s = nI (rwC (rlN l x.1) x.2) ∧ V s = nI (rwV (rlN l x.1) x.2)
def slIs (l : List Rl) (R P C V : Nat → Int32) (s : Nat) (o : Option (Nat × Nat)) : Prop := match o with
  | none => R s = -4
  | some x => rowIs l R P C V s x
/-- the whole board -/
def Brd (h : XH) (b : Nat) (l : List Rl) (σ : Sl) : Prop := ∃ R P C V, Bd h b l R P C V ∧ ∀ s, s < 16 → slIs l R P C V s (σ s)
theorem slIs.to {l : List Rl} {R P C V R' P' C' V' : Nat → Int32} {s : Nat} {o : Option (Nat × Nat)} (h : slIs l R P C V s o) (h1 : R' s = R s) (h2 : P' s = P s) (h3 : C' s = C s) (h4 : V' s = V s) : slIs l R' P' C' V' s o := by
  cases o with
  | none => exact h1.trans h
  | some x => exact ⟨h.1, h.2.1, h1.trans h.2.2.1, h2.trans h.2.2.2.1, h3.trans h.2.2.2.2.1, h4.trans h.2.2.2.2.2⟩
theorem Brd.same {h h' : XH} {b : Nat} {l : List Rl} {σ : Sl} (B : Brd h b l σ) {lo hi : Nat} (s : Same h h' lo hi) (hd : b + 14 ≤ lo ∨ hi ≤ b) : Brd h' b l σ := by
  obtain ⟨R, P, C, V, B, hs⟩ := B
  exact ⟨R, P, C, V, B.same s hd, hs⟩
theorem Brd.copy {h : XH} {b b2 : Nat} {l l2 : List Rl} {σ σ2 : Sl} (B : Brd h b l σ) (B2 : Brd h b2 l2 σ2) (hd : b + 14 ≤ b2 ∨ b2 + 14 ≤ b) {d : Nat} : ∃ h', xc XP (d + 1) 1 [.ref b, .ref b2] h = some (none, h') ∧ Brd h' b l2 σ2 ∧ Same h h' b (b + 14) := by
  obtain ⟨R, P, C, V, B, hs⟩ := B
  obtain ⟨R2, P2, C2, V2, B2, hs2⟩ := B2
  obtain ⟨h', e, B', s'⟩ := q_copyFromB B B2 hd (d := d)
  exact ⟨h', e, ⟨_, _, _, _, B', fun s hs => (hs2 s hs).to (cpy0 (by omega)) (cpy0 (by omega)) (cpy0 (by omega)) (cpy0 (by omega))⟩, s'⟩
