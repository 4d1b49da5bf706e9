/-! THE CLASS: join -/
def fitJ (l : List Rl) (σ : Sl) (f g u k s : Nat) : Bool := if s = g then false else if s = f then (match σ f with
  | none => false
  | some x => decide ((k ^^^ (vX l x &&& (127 ^^^ u))) &&& (cX l x &&& (127 ^^^ u)) = 0)) else fitS l σ k s
def tJ (l : List Rl) (σ : Sl) (f g u k : Nat) : Option Nat := fup (fitJ l σ f g u k) 0 16
def smJ (l : List Rl) (σ : Sl) (f g u : Nat) : Bool := (fup (fun k => !decide (ansR l (rAt σ (tJ l σ f g u k)) = ansR l (rAt σ (tS l σ k)))) 0 128).isNone
def pop7 (n : Nat) : Nat := n % 2 + n / 2 % 2 + n / 4 % 2 + n / 8 % 2 + n / 16 % 2 + n / 32 % 2 + n / 64 % 2
def uJ (l : List Rl) (x y : Nat × Nat) : Nat := if cX l x = cX l y ∧ pop7 (vX l x ^^^ vX l y) = 1 then vX l x ^^^ vX l y else 0
def aJoin (S : CS) (a b : Int32) : Int32 := if isSl a = true ∧ isSl b = true ∧ ¬ a = b then (match S.s (xN a) with
  | none => -2
  | some x => match S.s (xN b) with
    | none => -2
    | some y => if uJ S.l x y = 0 ∨ ¬ ansR S.l (some x.1) = ansR S.l (some y.1) then nI 0 else if smJ S.l S.s (min (xN a) (xN b)) (max (xN a) (xN b)) (uJ S.l x y) = true then nI 2 else bI (smJ S.l S.s (max (xN a) (xN b)) (min (xN a) (xN b)) (uJ S.l x y))) else -1
theorem fup_succ {p : Nat → Bool} {i n : Nat} : fup p i (n + 1) = if p i = true then some i else fup p (i + 1) n := rfl
theorem bcn_7 : ∀ k, k < 128 → bcn (nI k) = nI (pop7 k) := by decide
theorem not_7 (x y : Int32) : x &&& nI 127 &&& (y ^^^ (-1)) = x &&& nI 127 &&& (nI 127 ^^^ y) := by
  apply Int32.toBitVec_inj.mp
  show x.toBitVec &&& (nI 127).toBitVec &&& (y.toBitVec ^^^ (-1 : Int32).toBitVec) = x.toBitVec &&& (nI 127).toBitVec &&& ((nI 127).toBitVec ^^^ y.toBitVec)
  have e : (-1 : Int32).toBitVec = BitVec.allOnes 32 := by decide
  rw [e]
  generalize (nI 127).toBitVec = m
  apply BitVec.eq_of_getElem_eq
  intro i hi
  simp only [BitVec.getElem_and, BitVec.getElem_xor, BitVec.getElem_allOnes]
  cases x.toBitVec[i] <;> cases m[i] <;> cases y.toBitVec[i] <;> rfl
theorem and_127 {c : Nat} (hc : c < 128) : c &&& 127 = c := by
  have := Nat.and_two_pow_sub_one_eq_mod c 7
  rw [show 2 ^ 7 - 1 = 127 by decide] at this
  rw [this]
  exact Nat.mod_eq_of_lt hc
theorem not_n {c u : Nat} (hc : c < 128) : nI c &&& (nI u ^^^ (-1)) = nI (c &&& (127 ^^^ u)) := by
  have e : nI c = nI c &&& nI 127 := by rw [nx_and, and_127 hc]
  rw [e, not_7, ← e, nx_xor, nx_and]
section JoinR
variable {h : XH} {b : Nat} {l : List Rl} {R P C V : Nat → Int32} {σ : Sl} {d : Nat}
def rkIs (l : List Rl) (R : Nat → Int32) (s : Nat) (o : Option (Nat × Nat)) : Prop := match o with
  | none => R s = -4
  | some x => x.1 < l.length ∧ R s = nI (rlN l x.1).1
theorem q_ruleOfK (B : Bd h b l R P C V) (hs : ∀ s, s < 16 → rkIs l R s (σ s)) (hd : dst l) {o : Option Nat} (ho : ∀ s, o = some s → s < 16) : xc XP (d + 1) 6 [.ref b, .int (oI o)] h = some (some (.int (oI (rAt σ o))), h) := by
  have c1 := B.T.c
  have c2 := B.L.c
  rw [n_X0_ruleOf]
  cases o with
  | none =>
    simp (disch := first | assumption | omega) only [e_X0_ruleOf_0, e_X0_ruleOf_1, e_X0_ruleOf_2, e_X0_ruleOf_3, e_X0_ruleOf_4, e_X0_ruleOf_5, e_X0_ruleOf_6, e_X0_ruleOf_7, e_X0_ruleOf_8, e_X0_ruleOf_9, e_X0_ruleOf_10, e_X0_ruleOf_11, e_X0_ruleOf_12, e_X0_ruleOf_13, e_X0_ruleOf_14, e_X0_ruleOf_15, e_X0_ruleOf_16, e_X0_ruleOf_17, e_X0_ruleOf_18, q_isSlot, xbk_i, bI_0, oI_none, show (decide (¬ (-4 : Int32) < nI 0) && decide ((-4 : Int32) < nI 16)) = false by decide, if_true]
    rfl
  | some s =>
    have hs16 := ho s rfl
    have hsl := hs s hs16
    have hi := isS_nI hs16
    have he : emp R s = (σ s).isNone := by
      unfold emp
      unfold rkIs at hsl
      cases hx : σ s with
      | none => rw [hx] at hsl; rw [hsl]; rfl
      | some x =>
        rw [hx] at hsl
        have hv := (B.L.v hsl.1).1
        rw [hsl.2]
        simp [nI_n4 (show (rlN l x.1).1 < 2 ^ 31 by omega)]
    simp (disch := first | assumption | omega) only [e_X0_ruleOf_0, e_X0_ruleOf_1, e_X0_ruleOf_2, e_X0_ruleOf_3, e_X0_ruleOf_4, e_X0_ruleOf_5, e_X0_ruleOf_6, e_X0_ruleOf_7, e_X0_ruleOf_8, e_X0_ruleOf_9, e_X0_ruleOf_10, e_X0_ruleOf_11, e_X0_ruleOf_12, e_X0_ruleOf_13, e_X0_ruleOf_14, e_X0_ruleOf_15, e_X0_ruleOf_16, e_X0_ruleOf_17, e_X0_ruleOf_18, q_isSlot, q_isEmpty B.T, xbk_i, bI_0, oI_some, hi, B.f0, B.f1, B.T.f0, B.T.lR, Option.bind_some, he]
    unfold rAt
    cases hx : σ s with
    | none => simp [hx, oI]
    | some x =>
      rw [hx] at hsl
      have hv := (B.L.v hsl.1).1
      rw [hsl.2, q_numberOf B.L (by omega), nofR_of hd hsl.1]
      simp [hx, xbk_i, e_X0_ruleOf_16, e_X0_ruleOf_18]
theorem q_answerOfK (B : Bd h b l R P C V) (hs : ∀ s, s < 16 → rkIs l R s (σ s)) (hd : dst l) {o : Option Nat} (ho : ∀ s, o = some s → s < 16) : xc XP (d + 2) 7 [.ref b, .int (oI o)] h = some (some (.int (ansR l (rAt σ o))), h) := by
  have q1 := q_ruleOfK (d := d) B hs hd ho
  have q2 := q_answerOfR B.L (d := d + 1) (o := rAt σ o) (fun r hr => by
    unfold rAt at hr
    cases o with
    | none => simp at hr
    | some s =>
      have hsl := hs s (ho s rfl)
      cases hx : σ s with
      | none => simp [hx] at hr
      | some x =>
        rw [hx] at hsl
        simp [hx] at hr
        rw [← hr]
        exact hsl.1)
  have c1 := B.L.c
  have c2 := B.c
  rw [n_X0_answerOf]
  simp (disch := first | assumption | omega) only [e_X0_answerOf_0, e_X0_answerOf_1, e_X0_answerOf_2, e_X0_answerOf_3, e_X0_answerOf_4, e_X0_answerOf_5, e_X0_answerOf_6, B.f0, Option.bind_some, q1, q2, xbk_i]
theorem fitJ_eq (hv : ∀ q ∈ l, vr q) {f g u k s : Nat} (h1 : ∀ s, s < 16 → slIs l R P C V s (σ s)) (hf : f < 16) (hs : s < 16) :
    fts (upd R g (-4)) (upd C f (C f &&& (nI u ^^^ (-1)))) (upd V f (V f &&& (nI u ^^^ (-1)))) (nI k) s = fitJ l σ f g u k s := by
  unfold fitJ
  by_cases a1 : s = g
  · rw [if_pos a1, a1]
    unfold fts emp
    rw [upd_s]
    rfl
  · rw [if_neg a1]
    have hem : emp (upd R g (-4)) s = emp R s := by unfold emp; rw [upd_n a1]
    by_cases a2 : s = f
    · rw [if_pos a2]
      unfold fts
      rw [hem, slIs_emp hv (h1 s hs), a2, upd_s, upd_s]
      have q := h1 f hf
      cases hx : σ f with
      | none => rfl
      | some x =>
        rw [hx] at q
        obtain ⟨-, -, -, -, q5, q6⟩ := q
        simp only [Option.isNone_some, Bool.not_false, Bool.true_and]
        rw [q5, q6, not_n (rwC_lt _ _), not_n (rwV_lt _ _), nx_xor, nx_and]
        apply decide_eq_decide.mpr
        refine nI_eq (Nat.lt_of_le_of_lt Nat.and_le_right (Nat.lt_of_le_of_lt Nat.and_le_left ?_)) (by decide)
        exact Nat.lt_trans (rwC_lt _ _) (by decide)
    · rw [if_neg a2, ← fts_eq hv (h1 s hs)]
      unfold fts
      rw [hem, upd_n a2, upd_n a2]
theorem q_same {c : Nat} {S : CS} (K : Cr h c S) (hd : dst S.l) {f g u : Nat} (hf : f < 16) (hg : g < 16) (hfg : f ≠ g) : ∃ h', xc XP (d + 5) 108 [.ref c, .int (nI f), .int (nI g), .int (nI u)] h = some (some (.int (bI (smJ S.l S.s f g u))), h') ∧ Cr h' c S ∧ Same h h' (c + 18) (c + 32) := by
  have c0 := K.T.k
  obtain ⟨ms0, N0⟩ := K.N
  obtain ⟨h1, e1, B1, s1⟩ := Brd.copyX K.T K.B (by omega) (d := d + 3)
  have O1 := K.O.same s1 (by omega)
  have g11 := B1.g1
  have t1 := B1.t
  obtain ⟨R, P, C, V, D1, r1⟩ := B1
  obtain ⟨h2, e2, T2, s2⟩ := q_loosen D1.T (d := d + 4) (k := f) (b := nI u) (by omega)
  have D2 := D1.setT T2 (s2.weak (by omega) (by omega))
  have O2 := O1.same s2 (by omega)
  have t2 := T2.c
  obtain ⟨h3, e3, T3, s3⟩ := q_clear T2 (d := d + 4) (k := g) (by omega)
  have D3 := D2.setT T3 (s3.weak (by omega) (by omega))
  have O3 := O2.same s3 (by omega)
  have S3 : Same h h3 (c + 18) (c + 32) := ((s1.weak (by omega) (by omega)).trans (s2.weak (by omega) (by omega))).trans (s3.weak (by omega) (by omega))
  have K3 : Cr h3 c S := ⟨O3, K.X.same S3 (by omega), K.Z.same S3 (by omega), K.B.same S3 (by omega), ⟨_, _, _, _, _, D3⟩, K.M.same S3 (by omega), ⟨ms0, N0.same S3 (by omega)⟩, K.Q.same S3 (by omega)⟩
  refine ⟨h3, ?_, K3, S3⟩
  have hv := D3.L.2.1
  have hrk : ∀ s, s < 16 → rkIs S.l (upd R g (-4)) s ((fun s => if s = g then none else S.s s) s) := by
    intro s hs
    by_cases a : s = g
    · simp only [a, if_true]; exact upd_s
    · simp only [a, if_false]
      have q := r1 s hs
      cases hx : S.s s with
      | none => rw [hx] at q; show upd R g (-4) s = -4; rw [upd_n a]; exact q
      | some x => rw [hx] at q; exact ⟨q.1, by rw [upd_n a]; exact q.2.2.1⟩
  have c1 := K3.B.k
  have c2 := K3.B.t
  have c3 := D3.c
  have c4 := D3.T.c
  have hslot : ∀ k, xc XP (d + 4) 65 [.ref (c + 18 + 9), .int (nI k)] h3 = some (some (.int (oI (tJ S.l S.s f g u k))), h3) := by
    intro k
    rw [q_answeringSlot D3.T]
    unfold ansS tJ
    rw [fup_congr (fun j _ hj => fitJ_eq hv r1 hf (by omega))]
  have htJ : ∀ k s, tJ S.l S.s f g u k = some s → s < 16 := fun k s hs => by have := (fup_some.mp hs).2.1; omega
  have hans : ∀ k, xc XP (d + 4) 7 [.ref (c + 18), .int (oI (tJ S.l S.s f g u k))] h3 = some (some (.int (ansR S.l (rAt S.s (tJ S.l S.s f g u k)))), h3) := by
    intro k
    rw [q_answerOfK (d := d + 2) D3 hrk hd (htJ k)]
    congr 4
    unfold rAt
    cases ht : tJ S.l S.s f g u k with
    | none => rfl
    | some s =>
      have hne : s ≠ g := by
        intro e
        have := (fup_some.mp ht).2.2.1
        unfold fitJ at this
        rw [if_pos e] at this
        cases this
      simp [hne]
  rw [n_X7_isSameJoined]
  simp (disch := first | assumption | omega) only [e_X7_isSameJoined_0, e_X7_isSameJoined_1, e_X7_isSameJoined_2, e_X7_isSameJoined_3, e_X7_isSameJoined_4, e_X7_isSameJoined_5, e_X7_isSameJoined_6, e_X7_isSameJoined_7, e_X7_isSameJoined_8, e_X7_isSameJoined_9, e_X7_isSameJoined_10, e_X7_isSameJoined_11, e_X7_isSameJoined_12, e_X7_isSameJoined_13, e_X7_isSameJoined_14, e_X7_isSameJoined_15, e_X7_isSameJoined_16, e_X7_isSameJoined_17, K.O.f2, K.O.f3, Option.bind_some, e1, xbk_v, O1.f3, g11, e2, O2.f3, D2.f1, e3]
  have key : ∀ (n k : Nat) (a5 : Value), k + n = 128 → xe XP (d + 5) 108 (18, [.ref c, .int (nI f), .int (nI g), .int (nI u), .int (nI k), a5], [], h3) = some (some (.int (bI (fup (fun k => !decide (ansR S.l (rAt S.s (tJ S.l S.s f g u k)) = ansR S.l (rAt S.s (tS S.l S.s k)))) k n).isNone)), h3) := by
    intro n
    induction n with
    | zero =>
      intro k a5 hk
      simp (disch := first | assumption | omega) only [e_X7_isSameJoined_18, e_X7_isSameJoined_19, e_X7_isSameJoined_20, e_X7_isSameJoined_44, e_X7_isSameJoined_45, nI_leI, if_t, rk_1]
      rfl
    | succ n ih =>
      intro k a5 hk
      rw [e_X7_isSameJoined_18]
      have ih' := ih (k + 1) (.int (ansR S.l (rAt S.s (tS S.l S.s k)))) (by omega)
      simp (disch := first | assumption | omega) only [e_X7_isSameJoined_19, e_X7_isSameJoined_20, e_X7_isSameJoined_21, e_X7_isSameJoined_22, e_X7_isSameJoined_23, e_X7_isSameJoined_24, e_X7_isSameJoined_25, e_X7_isSameJoined_26, e_X7_isSameJoined_27, e_X7_isSameJoined_28, e_X7_isSameJoined_29, e_X7_isSameJoined_30, e_X7_isSameJoined_31, e_X7_isSameJoined_32, e_X7_isSameJoined_33, e_X7_isSameJoined_34, e_X7_isSameJoined_35, e_X7_isSameJoined_36, e_X7_isSameJoined_37, e_X7_isSameJoined_38, e_X7_isSameJoined_39, e_X7_isSameJoined_40, e_X7_isSameJoined_41, e_X7_isSameJoined_42, e_X7_isSameJoined_43, nI_leI, if_f, K3.O.f2, K3.O.f3, K3.B.g1, D3.f1, Option.bind_some, q_answeringSlotB K3.B, q_answerOfB K3.B hd (fun s hs => tS_lt hs), xbk_i, hslot, hans, nI_add, rk_0, if_true, ih']
      rw [fup_succ]
      by_cases q : ansR S.l (rAt S.s (tJ S.l S.s f g u k)) = ansR S.l (rAt S.s (tS S.l S.s k))
      · simp [q]
      · simp [q, bI]
  exact key 128 0 .null (by omega)
theorem q_unlike (B : Brd h b l σ) {s t : Nat} {x y : Nat × Nat} (hs : s < 16) (ht : t < 16) (hx : σ s = some x) (hy : σ t = some y) : xc XP (d + 1) 54 [.ref (b + 9), .int (nI s), .int (nI t)] h = some (some (.int (nI (uJ l x y))), h) := by
  obtain ⟨R, P, C, V, B, r1⟩ := B
  have q := r1 s hs
  have q2 := r1 t ht
  rw [hx] at q
  rw [hy] at q2
  obtain ⟨-, -, -, -, q5, q6⟩ := q
  obtain ⟨-, -, -, -, p5, p6⟩ := q2
  rw [q_onlySignUnlike B.T (by omega) (by omega), q5, q6, p5, p6, nx_xor]
  have hlt : vX l x ^^^ vX l y < 128 := Nat.xor_lt_two_pow (n := 7) (vX_lt l x) (vX_lt l y)
  have hb : bcn (nI (rwV (rlN l x.1) x.2 ^^^ rwV (rlN l y.1) y.2)) = nI (pop7 (vX l x ^^^ vX l y)) := bcn_7 _ hlt
  have hp : pop7 (vX l x ^^^ vX l y) < 2 ^ 31 := by unfold pop7; omega
  have e1 : (nI (rwC (rlN l x.1) x.2) = nI (rwC (rlN l y.1) y.2)) = (cX l x = cX l y) := propext (nI_eq (Nat.lt_trans (rwC_lt _ _) (by decide)) (Nat.lt_trans (rwC_lt _ _) (by decide)))
  have e2 : (nI (pop7 (vX l x ^^^ vX l y)) = nI 1) = (pop7 (vX l x ^^^ vX l y) = 1) := propext (nI_eq hp (by decide))
  simp only [hb, e1, e2]
  unfold uJ
  split <;> rfl
theorem q_join {c : Nat} {S : CS} (K : Cr h c S) (hd : dst S.l) (a b : Int32) : ∃ h', xc XP (d + 14) 94 [.ref c, .int a, .int b] h = some (some (.int (aJoin S a b)), h') ∧ Cr h' c S ∧ Same h h' c (c + 110) := by
  have c0 := K.B.t
  have c1 := K.B.k
  have c2 := K.O.k
  unfold aJoin
  rw [n_X7_join]
  cases ha : isSl a with
  | false =>
    refine ⟨h, ?_, K, Same.refl _ _ _⟩
    simp (disch := first | assumption | omega) only [e_X7_join_0, e_X7_join_1, e_X7_join_2, e_X7_join_3, e_X7_join_4, e_X7_join_5, e_X7_join_6, e_X7_join_7, e_X7_join_8, e_X7_join_9, e_X7_join_10, q_isSlot2, ha, xbk_i, bI_f, if_true, Bool.false_eq_true, false_and, if_false]
  | true =>
    cases hb : isSl b with
    | false =>
      refine ⟨h, ?_, K, Same.refl _ _ _⟩
      simp (disch := first | assumption | omega) only [e_X7_join_0, e_X7_join_1, e_X7_join_2, e_X7_join_3, e_X7_join_4, e_X7_join_5, e_X7_join_6, e_X7_join_7, e_X7_join_8, e_X7_join_9, e_X7_join_10, q_isSlot2, ha, hb, xbk_i, bI_0, if_true, Bool.false_eq_true, Bool.true_eq_false, false_and, and_false, if_false]
    | true =>
      by_cases hab : a = b
      · rw [if_neg (fun hh => hh.2.2 hab)]
        refine ⟨h, ?_, K, Same.refl _ _ _⟩
        simp (disch := first | assumption | omega) only [e_X7_join_0, e_X7_join_1, e_X7_join_2, e_X7_join_3, e_X7_join_4, e_X7_join_5, e_X7_join_6, e_X7_join_7, e_X7_join_8, e_X7_join_9, e_X7_join_10, q_isSlot2, ha, hb, xbk_i, bI_0, Bool.true_eq_false, if_false, hab, not_true]
      · rw [if_pos ⟨rfl, rfl, hab⟩]
        obtain ⟨n, hn, rfl⟩ := isSl_of ha
        obtain ⟨m, hm, rfl⟩ := isSl_of hb
        have hnm : n ≠ m := fun e => hab (by rw [e])
        rw [xN_nI (by omega), xN_nI (by omega)]
        cases hx : S.s n with
        | none =>
          refine ⟨h, ?_, K, Same.refl _ _ _⟩
          simp (disch := first | assumption | omega) only [e_X7_join_0, e_X7_join_1, e_X7_join_2, e_X7_join_3, e_X7_join_4, e_X7_join_5, e_X7_join_6, e_X7_join_7, e_X7_join_8, e_X7_join_9, e_X7_join_10, e_X7_join_11, e_X7_join_12, e_X7_join_13, e_X7_join_14, e_X7_join_15, e_X7_join_16, e_X7_join_17, e_X7_join_18, e_X7_join_19, e_X7_join_20, e_X7_join_21, e_X7_join_22, e_X7_join_23, e_X7_join_24, q_isSlot2, ha, hb, xbk_i, bI_0, Bool.true_eq_false, if_false, hab, not_false_eq_true, if_true, K.O.f2, K.B.g1, Option.bind_some, q_emBr K.B, em_none hx]
        | some x =>
          cases hy : S.s m with
          | none =>
            refine ⟨h, ?_, K, Same.refl _ _ _⟩
            simp (disch := first | assumption | omega) only [e_X7_join_0, e_X7_join_1, e_X7_join_2, e_X7_join_3, e_X7_join_4, e_X7_join_5, e_X7_join_6, e_X7_join_7, e_X7_join_8, e_X7_join_9, e_X7_join_10, e_X7_join_11, e_X7_join_12, e_X7_join_13, e_X7_join_14, e_X7_join_15, e_X7_join_16, e_X7_join_17, e_X7_join_18, e_X7_join_19, e_X7_join_20, e_X7_join_21, e_X7_join_22, e_X7_join_23, e_X7_join_24, q_isSlot2, ha, hb, xbk_i, bI_0, Bool.true_eq_false, if_false, hab, not_false_eq_true, not_true, if_true, K.O.f2, K.B.g1, Option.bind_some, q_emBr K.B, em_some hx, em_none hy]
          | some y =>
            have hu : uJ S.l x y < 128 := by
              unfold uJ
              split
              · exact Nat.xor_lt_two_pow (n := 7) (vX_lt S.l x) (vX_lt S.l y)
              · omega
            have an : xc XP (d + 13) 7 [.ref (c + 4), .int (nI n)] h = some (some (.int (ansR S.l (some x.1))), h) := by
              have := q_answerOfB (d := d + 11) K.B hd (o := some n) (fun s hs => by cases hs; exact hn)
              rw [show rAt S.s (some n) = some x.1 by unfold rAt; simp [hx]] at this
              exact this
            have am : xc XP (d + 13) 7 [.ref (c + 4), .int (nI m)] h = some (some (.int (ansR S.l (some y.1))), h) := by
              have := q_answerOfB (d := d + 11) K.B hd (o := some m) (fun s hs => by cases hs; exact hm)
              rw [show rAt S.s (some m) = some y.1 by unfold rAt; simp [hy]] at this
              exact this
            by_cases g1 : uJ S.l x y = 0
            · simp only [g1, true_or, if_true]
              refine ⟨h, ?_, K, Same.refl _ _ _⟩
              simp (disch := first | assumption | omega) only [e_X7_join_0, e_X7_join_1, e_X7_join_2, e_X7_join_3, e_X7_join_4, e_X7_join_5, e_X7_join_6, e_X7_join_7, e_X7_join_8, e_X7_join_9, e_X7_join_10, e_X7_join_11, e_X7_join_12, e_X7_join_13, e_X7_join_14, e_X7_join_15, e_X7_join_16, e_X7_join_17, e_X7_join_18, e_X7_join_19, e_X7_join_20, e_X7_join_21, e_X7_join_22, e_X7_join_23, e_X7_join_24, e_X7_join_25, e_X7_join_26, e_X7_join_27, e_X7_join_28, e_X7_join_29, e_X7_join_30, e_X7_join_31, e_X7_join_32, e_X7_join_33, e_X7_join_34, e_X7_join_35, e_X7_join_36, e_X7_join_37, e_X7_join_38, e_X7_join_39, e_X7_join_40, e_X7_join_41, e_X7_join_42, e_X7_join_43, e_X7_join_44, q_isSlot2, ha, hb, xbk_i, bI_0, Bool.true_eq_false, if_false, hab, not_false_eq_true, not_true, if_true, K.O.f2, K.B.g1, Option.bind_some, q_emBr K.B, em_some hx, em_some hy, q_unlike K.B hn hm hx hy, g1]
            · have hu0 : ¬ nI (uJ S.l x y) = nI 0 := by rw [nI_eq (by omega) (by omega)]; exact g1
              by_cases g2 : ansR S.l (some x.1) = ansR S.l (some y.1)
              · simp only [g1, g2, not_true, or_self, if_false]
                have hmin : (if nI m < nI n then nI m else nI n) = nI (min n m) := by
                  by_cases q : m < n
                  · rw [if_pos ((nI_ltI (by omega) (by omega)).mpr q), show min n m = m by omega]
                  · rw [if_neg (fun e => q ((nI_ltI (by omega) (by omega)).mp e)), show min n m = n by omega]
                have hmax : (if nI n < nI m then nI m else nI n) = nI (max n m) := by
                  by_cases q : n < m
                  · rw [if_pos ((nI_ltI (by omega) (by omega)).mpr q), show max n m = m by omega]
                  · rw [if_neg (fun e => q ((nI_ltI (by omega) (by omega)).mp e)), show max n m = n by omega]
                obtain ⟨h1, e1, K1, s1⟩ := q_same (d := d + 8) K hd (f := min n m) (g := max n m) (u := uJ S.l x y) (by omega) (by omega) (by omega)
                have c3 := K1.O.k
                cases g3 : smJ S.l S.s (min n m) (max n m) (uJ S.l x y) with
                | true =>
                  rw [g3] at e1
                  refine ⟨h1, ?_, K1, s1.weak (by omega) (by omega)⟩
                  simp (disch := first | assumption | omega) only [e_X7_join_0, e_X7_join_1, e_X7_join_2, e_X7_join_3, e_X7_join_4, e_X7_join_5, e_X7_join_6, e_X7_join_7, e_X7_join_8, e_X7_join_9, e_X7_join_10, e_X7_join_11, e_X7_join_12, e_X7_join_13, e_X7_join_14, e_X7_join_15, e_X7_join_16, e_X7_join_17, e_X7_join_18, e_X7_join_19, e_X7_join_20, e_X7_join_21, e_X7_join_22, e_X7_join_23, e_X7_join_24, e_X7_join_25, e_X7_join_26, e_X7_join_27, e_X7_join_28, e_X7_join_29, e_X7_join_30, e_X7_join_31, e_X7_join_32, e_X7_join_33, e_X7_join_34, e_X7_join_35, e_X7_join_36, e_X7_join_37, e_X7_join_38, e_X7_join_39, e_X7_join_40, e_X7_join_41, e_X7_join_42, e_X7_join_43, e_X7_join_44, e_X7_join_45, e_X7_join_46, e_X7_join_47, e_X7_join_48, e_X7_join_49, e_X7_join_50, e_X7_join_51, e_X7_join_52, e_X7_join_53, e_X7_join_54, e_X7_join_55, e_X7_join_56, e_X7_join_57, e_X7_join_58, e_X7_join_59, e_X7_join_60, q_isSlot2, ha, hb, xbk_i, bI_0, Bool.true_eq_false, if_false, hab, not_false_eq_true, not_true, if_true, K.O.f2, K.B.g1, Option.bind_some, q_emBr K.B, em_some hx, em_some hy, q_unlike K.B hn hm hx hy, hu0, an, am, g2, q_min, q_max, hmin, hmax, e1]
                | false =>
                  rw [g3] at e1
                  obtain ⟨h2, e2, K2, s2⟩ := q_same (d := d + 8) K1 hd (f := max n m) (g := min n m) (u := uJ S.l x y) (by omega) (by omega) (by omega)
                  refine ⟨h2, ?_, K2, (s1.weak (by omega) (by omega)).trans (s2.weak (by omega) (by omega))⟩
                  simp (disch := first | assumption | omega) only [e_X7_join_0, e_X7_join_1, e_X7_join_2, e_X7_join_3, e_X7_join_4, e_X7_join_5, e_X7_join_6, e_X7_join_7, e_X7_join_8, e_X7_join_9, e_X7_join_10, e_X7_join_11, e_X7_join_12, e_X7_join_13, e_X7_join_14, e_X7_join_15, e_X7_join_16, e_X7_join_17, e_X7_join_18, e_X7_join_19, e_X7_join_20, e_X7_join_21, e_X7_join_22, e_X7_join_23, e_X7_join_24, e_X7_join_25, e_X7_join_26, e_X7_join_27, e_X7_join_28, e_X7_join_29, e_X7_join_30, e_X7_join_31, e_X7_join_32, e_X7_join_33, e_X7_join_34, e_X7_join_35, e_X7_join_36, e_X7_join_37, e_X7_join_38, e_X7_join_39, e_X7_join_40, e_X7_join_41, e_X7_join_42, e_X7_join_43, e_X7_join_44, e_X7_join_45, e_X7_join_46, e_X7_join_47, e_X7_join_48, e_X7_join_49, e_X7_join_50, e_X7_join_51, e_X7_join_52, e_X7_join_53, e_X7_join_54, e_X7_join_55, e_X7_join_56, e_X7_join_57, e_X7_join_58, e_X7_join_59, e_X7_join_60, e_X7_join_61, e_X7_join_62, e_X7_join_63, e_X7_join_64, e_X7_join_65, e_X7_join_66, e_X7_join_67, e_X7_join_68, e_X7_join_69, e_X7_join_70, q_isSlot2, ha, hb, xbk_i, bI_0, Bool.true_eq_false, Bool.false_eq_true, if_false, hab, not_false_eq_true, not_true, if_true, K.O.f2, K.B.g1, Option.bind_some, q_emBr K.B, em_some hx, em_some hy, q_unlike K.B hn hm hx hy, hu0, an, am, g2, q_min, q_max, hmin, hmax, e1, e2]
                  cases smJ S.l S.s (max n m) (min n m) (uJ S.l x y) <;> rfl
              · simp only [g1, g2, not_false_eq_true, or_true, if_true]
                refine ⟨h, ?_, K, Same.refl _ _ _⟩
                simp (disch := first | assumption | omega) only [e_X7_join_0, e_X7_join_1, e_X7_join_2, e_X7_join_3, e_X7_join_4, e_X7_join_5, e_X7_join_6, e_X7_join_7, e_X7_join_8, e_X7_join_9, e_X7_join_10, e_X7_join_11, e_X7_join_12, e_X7_join_13, e_X7_join_14, e_X7_join_15, e_X7_join_16, e_X7_join_17, e_X7_join_18, e_X7_join_19, e_X7_join_20, e_X7_join_21, e_X7_join_22, e_X7_join_23, e_X7_join_24, e_X7_join_25, e_X7_join_26, e_X7_join_27, e_X7_join_28, e_X7_join_29, e_X7_join_30, e_X7_join_31, e_X7_join_32, e_X7_join_33, e_X7_join_34, e_X7_join_35, e_X7_join_36, e_X7_join_37, e_X7_join_38, e_X7_join_39, e_X7_join_40, e_X7_join_41, e_X7_join_42, e_X7_join_43, e_X7_join_44, q_isSlot2, ha, hb, xbk_i, bI_0, Bool.true_eq_false, if_false, hab, not_false_eq_true, not_true, if_true, K.O.f2, K.B.g1, Option.bind_some, q_emBr K.B, em_some hx, em_some hy, q_unlike K.B hn hm hx hy, hu0, an, am, g2]
end JoinR
