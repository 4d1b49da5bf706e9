/-! WHAT is asked of a board, in numbers -/
def vX (l : List Rl) (x : Nat × Nat) : Nat := rwV (rlN l x.1) x.2
def cX (l : List Rl) (x : Nat × Nat) : Nat := rwC (rlN l x.1) x.2
theorem vX_lt (l : List Rl) (x : Nat × Nat) : vX l x < 128 := rwV_lt _ _
theorem cX_lt (l : List Rl) (x : Nat × Nat) : cX l x < 128 := rwC_lt _ _
def hfA (l : List Rl) (σ : Sl) (k s : Nat) : Bool := match σ s with
  | none => false
  | some x => decide ((k ^^^ vX l x) &&& cX l x &&& 112 = 0)
def bkA (l : List Rl) (σ : Sl) (k : Nat) : Nat := itr (fun s a => if hfA l σ k s = true then a ||| 2 ^ (s / 4) else a) 0 16
def pop4 (n : Nat) : Nat := n % 2 + n / 2 % 2 + n / 4 % 2 + n / 8 % 2
def sg1 (c v b : Nat) : Nat := if c &&& b = 0 then 2 else if v &&& b = 0 then 0 else 1
def sgA (l : List Rl) (x : Nat × Nat) : Nat := (((((sg1 (cX l x) (vX l x) 64 * 10 + sg1 (cX l x) (vX l x) 32) * 10 + sg1 (cX l x) (vX l x) 16) * 10 + sg1 (cX l x) (vX l x) 8) * 10 + sg1 (cX l x) (vX l x) 4) * 10 + sg1 (cX l x) (vX l x) 2) * 10 + sg1 (cX l x) (vX l x) 1
def bloA (l : List Rl) (σ : Sl) (s j : Nat) : Bool := match σ s with
  | none => false
  | some x => match σ j with
    | none => false
    | some y => decide (cX l y = cX l x) && decide (vX l y = vX l x)
def prA (l : List Rl) (σ : Sl) (a b : Nat) : Bool := match σ a with
  | none => false
  | some x => match σ b with
    | none => false
    | some y => !decide (x.1 = y.1) && mtX l x y
theorem bkA_lt (l : List Rl) (σ : Sl) (k : Nat) : bkA l σ k < 16 := by
  have : ∀ n, n ≤ 16 → itr (fun s a => if hfA l σ k s = true then a ||| 2 ^ (s / 4) else a) 0 n < 2 ^ 4 := by
    intro n
    induction n with
    | zero => intro _; exact (by decide : (0 : Nat) < 2 ^ 4)
    | succ n ih =>
      intro hn
      have h := ih (by omega)
      show (if hfA l σ k n = true then itr (fun s a => if hfA l σ k s = true then a ||| 2 ^ (s / 4) else a) 0 n ||| 2 ^ (n / 4) else itr (fun s a => if hfA l σ k s = true then a ||| 2 ^ (s / 4) else a) 0 n) < 2 ^ 4
      split
      · exact Nat.or_lt_two_pow h (Nat.pow_lt_pow_right (by decide) (by omega))
      · exact h
  exact this 16 (by omega)
theorem bcn_nI : ∀ k, k < 16 → bcn (nI k) = nI (pop4 k) := by decide
theorem pop4_le (k : Nat) : pop4 k ≤ 4 := by unfold pop4; omega
section AskR
variable {l : List Rl} {R P C V : Nat → Int32} {σ : Sl}
theorem hft_eq (hv : ∀ q ∈ l, vr q) {k s : Nat} (h1 : slIs l R P C V s (σ s)) : hft R C V (nI k) s = hfA l σ k s := by
  unfold hft hfA
  rw [slIs_emp hv h1]
  cases hs : σ s with
  | none => rfl
  | some x =>
    rw [hs] at h1
    obtain ⟨a1, a2, a3, a4, a5, a6⟩ := h1
    simp only [Option.isNone_some, Bool.not_false, Bool.true_and]
    rw [a5, a6, nx_xor, nx_and, nx_and]
    apply decide_eq_decide.mpr
    exact nI_eq (Nat.lt_of_le_of_lt Nat.and_le_right (by decide)) (by decide)
theorem bon_eq (hv : ∀ q ∈ l, vr q) {k : Nat} (h1 : ∀ s, s < 16 → slIs l R P C V s (σ s)) : bon R C V (nI k) = nI (bkA l σ k) := by
  have : ∀ n, n ≤ 16 → itr (fun s a => if hft R C V (nI k) s = true then a ||| j_shl (nI 1) (j_div (nI s) (nI 4)) else a) (nI 0) n = nI (itr (fun s a => if hfA l σ k s = true then a ||| 2 ^ (s / 4) else a) 0 n) := by
    intro n
    induction n with
    | zero => intro _; rfl
    | succ n ih =>
      intro hn
      show (if hft R C V (nI k) n = true then itr (fun s a => if hft R C V (nI k) s = true then a ||| j_shl (nI 1) (j_div (nI s) (nI 4)) else a) (nI 0) n ||| j_shl (nI 1) (j_div (nI n) (nI 4)) else itr (fun s a => if hft R C V (nI k) s = true then a ||| j_shl (nI 1) (j_div (nI s) (nI 4)) else a) (nI 0) n) = nI (if hfA l σ k n = true then itr (fun s a => if hfA l σ k s = true then a ||| 2 ^ (s / 4) else a) 0 n ||| 2 ^ (n / 4) else itr (fun s a => if hfA l σ k s = true then a ||| 2 ^ (s / 4) else a) 0 n)
      rw [ih (by omega), hft_eq hv (h1 n (by omega))]
      have hsh : ∀ m, m < 16 → j_shl (nI 1) (j_div (nI m) (nI 4)) = nI (2 ^ (m / 4)) := by decide
      rw [hsh n (by omega), nx_or]
      split <;> rfl
  exact this 16 (by omega)
theorem blo_eq (hv : ∀ q ∈ l, vr q) {s j : Nat} (h1 : slIs l R P C V s (σ s)) (h2 : slIs l R P C V j (σ j)) (hs : (σ s).isSome = true) : blo R C V s j = bloA l σ s j := by
  unfold blo bloA
  rw [slIs_emp hv h2]
  cases hx : σ s with
  | none => rw [hx] at hs; cases hs
  | some x =>
    cases hy : σ j with
    | none => rfl
    | some y =>
      rw [hx] at h1
      rw [hy] at h2
      obtain ⟨-, -, -, -, a5, a6⟩ := h1
      obtain ⟨-, -, -, -, b5, b6⟩ := h2
      simp only [Option.isNone_some, Bool.not_false, Bool.true_and]
      rw [a5, a6, b5, b6]
      have q1 := cX_lt l x
      have q2 := cX_lt l y
      have q3 := vX_lt l x
      have q4 := vX_lt l y
      congr 1
      · exact decide_eq_decide.mpr (nI_eq (show cX l y < 2 ^ 31 by omega) (show cX l x < 2 ^ 31 by omega))
      · exact decide_eq_decide.mpr (nI_eq (show vX l y < 2 ^ 31 by omega) (show vX l x < 2 ^ 31 by omega))
theorem prm_eq (hv : ∀ q ∈ l, vr q) (hd : dst l) {a b : Nat} (h1 : slIs l R P C V a (σ a)) (h2 : slIs l R P C V b (σ b)) : prm R C V a b = prA l σ a b := by
  unfold prm prA
  rw [slIs_emp hv h1, slIs_emp hv h2]
  cases hx : σ a with
  | none => rfl
  | some x =>
    cases hy : σ b with
    | none => rfl
    | some y =>
      rw [hx] at h1
      rw [hy] at h2
      have h1 : rowIs l R P C V a x := h1
      have h2 : rowIs l R P C V b y := h2
      have r1 := (hv _ (rlN_mem h1.1)).1
      have r2 := (hv _ (rlN_mem h2.1)).1
      simp only [Option.isNone_some, Bool.not_false, Bool.true_and]
      rw [mts_eq h1 h2, h1.2.2.1, h2.2.2.1]
      congr 2
      apply decide_eq_decide.mpr
      rw [nI_eq (by omega) (by omega)]
      exact ⟨fun e => hd _ _ h1.1 h2.1 e, fun e => by rw [e]⟩
theorem sgn_eq {s b : Nat} {x : Nat × Nat} (h1 : rowIs l R P C V s x) (hb : b < 128) : sgn C V s (nI b) = nI (sg1 (cX l x) (vX l x) b) := by
  unfold sgn sg1
  rw [h1.2.2.2.2.1, h1.2.2.2.2.2, nx_and, nx_and]
  have e1 : (nI (rwC (rlN l x.1) x.2 &&& b) = nI 0) = (cX l x &&& b = 0) := propext (nI_eq (Nat.lt_of_le_of_lt Nat.and_le_right (by omega)) (by decide))
  have e2 : (nI (rwV (rlN l x.1) x.2 &&& b) = nI 0) = (vX l x &&& b = 0) := propext (nI_eq (Nat.lt_of_le_of_lt Nat.and_le_right (by omega)) (by decide))
  simp only [e1, e2]
  split
  · rfl
  · split <;> rfl
end AskR
section AskB
variable {h : XH} {b : Nat} {l : List Rl} {σ : Sl} {d : Nat}
theorem q_bkB (B : Brd h b l σ) {k : Nat} : xc XP (d + 1) 68 [.ref (b + 9), .int (nI k)] h = some (some (.int (nI (bkA l σ k))), h) := by
  obtain ⟨R, P, C, V, B, r1⟩ := B
  rw [q_blocksOn B.T, bon_eq B.L.2.1 r1]
theorem q_abB (B : Brd h b l σ) : xc XP (d + 2) 69 [.ref (b + 9)] h = some (some (.int (nI (itr (fun k a => a + pop4 (bkA l σ k)) 0 128))), h) := by
  obtain ⟨R, P, C, V, B, r1⟩ := B
  rw [q_allBlocksOn B.T]
  congr 3
  have : ∀ n, itr (fun k a => a + bcn (bon R C V (nI k))) (nI 0) n = nI (itr (fun k a => a + pop4 (bkA l σ k)) 0 n) := by
    intro n
    induction n with
    | zero => rfl
    | succ n ih =>
      show itr (fun k a => a + bcn (bon R C V (nI k))) (nI 0) n + bcn (bon R C V (nI n)) = nI (itr (fun k a => a + pop4 (bkA l σ k)) 0 n + pop4 (bkA l σ n))
      rw [ih, bon_eq B.L.2.1 r1, bcn_nI _ (bkA_lt _ _ _), nI_add]
  rw [this]
theorem q_mbB (B : Brd h b l σ) : xc XP (d + 2) 70 [.ref (b + 9)] h = some (some (.int (nI (itr (fun k a => if a < pop4 (bkA l σ k) then pop4 (bkA l σ k) else a) 0 128))), h) := by
  obtain ⟨R, P, C, V, B, r1⟩ := B
  rw [q_mostBlocksOn B.T]
  congr 3
  have : ∀ n, itr (fun k a => if a < bcn (bon R C V (nI k)) then bcn (bon R C V (nI k)) else a) (nI 0) n = nI (itr (fun k a => if a < pop4 (bkA l σ k) then pop4 (bkA l σ k) else a) 0 n) ∧ itr (fun k a => if a < pop4 (bkA l σ k) then pop4 (bkA l σ k) else a) 0 n ≤ 4 := by
    intro n
    induction n with
    | zero => exact ⟨rfl, Nat.zero_le _⟩
    | succ n ih =>
      obtain ⟨i1, i2⟩ := ih
      have hp := pop4_le (bkA l σ n)
      constructor
      · show (if itr (fun k a => if a < bcn (bon R C V (nI k)) then bcn (bon R C V (nI k)) else a) (nI 0) n < bcn (bon R C V (nI n)) then bcn (bon R C V (nI n)) else itr (fun k a => if a < bcn (bon R C V (nI k)) then bcn (bon R C V (nI k)) else a) (nI 0) n) = nI (if itr (fun k a => if a < pop4 (bkA l σ k) then pop4 (bkA l σ k) else a) 0 n < pop4 (bkA l σ n) then pop4 (bkA l σ n) else itr (fun k a => if a < pop4 (bkA l σ k) then pop4 (bkA l σ k) else a) 0 n)
        rw [i1, bon_eq B.L.2.1 r1, bcn_nI _ (bkA_lt _ _ _)]
        have e : (nI (itr (fun k a => if a < pop4 (bkA l σ k) then pop4 (bkA l σ k) else a) 0 n) < nI (pop4 (bkA l σ n))) = (itr (fun k a => if a < pop4 (bkA l σ k) then pop4 (bkA l σ k) else a) 0 n < pop4 (bkA l σ n)) := propext (nI_ltI (by omega) (by omega))
        simp only [e]
        split <;> rfl
      · show (if itr (fun k a => if a < pop4 (bkA l σ k) then pop4 (bkA l σ k) else a) 0 n < pop4 (bkA l σ n) then pop4 (bkA l σ n) else itr (fun k a => if a < pop4 (bkA l σ k) then pop4 (bkA l σ k) else a) 0 n) ≤ 4
        split <;> omega
  rw [(this 128).1]
theorem q_dfB (B : Brd h b l σ) : xc XP (d + 2) 72 [.ref (b + 9)] h = some (some (.int (nI (ct (fun s => (σ s).isSome && !(fup (bloA l σ s) 0 s).isSome) 16))), h) := by
  obtain ⟨R, P, C, V, B, r1⟩ := B
  rw [q_differentRows B.T, ct_congr (q := fun s => (σ s).isSome && !(fup (bloA l σ s) 0 s).isSome) (fun j hj => ?_)]
  rw [slIs_emp B.L.2.1 (r1 j hj)]
  cases hs : σ j with
  | none => rfl
  | some x =>
    rw [fup_congr (fun i _ hi => blo_eq (σ := σ) B.L.2.1 (r1 j hj) (r1 i (by omega)) (by rw [hs]; rfl))]
    rfl
theorem itr_ext {τ : Type} {f g : Nat → τ → τ} {a : τ} : ∀ {n : Nat}, (∀ j x, j < n → f j x = g j x) → itr f a n = itr g a n := itr_congr
theorem q_prB (B : Brd h b l σ) (hd : dst l) : xc XP (d + 1) 71 [.ref (b + 9)] h = some (some (.int (nI (itr (fun a n => n + ct (fun b => decide (a + 1 ≤ b) && prA l σ a b) 16) 0 16))), h) := by
  obtain ⟨R, P, C, V, B, r1⟩ := B
  rw [q_pairsThatMeet B.T]
  rw [itr_ext (g := fun a n => n + ct (fun b => decide (a + 1 ≤ b) && prA l σ a b) 16) (fun j x hj => ?_)]
  rw [ct_congr (fun i hi => ?_)]
  rw [prm_eq B.L.2.1 hd (r1 j hj) (r1 i hi)]
theorem q_sgB (B : Brd h b l σ) {s : Nat} {x : Nat × Nat} (hs : s < 16) (hx : σ s = some x) : xc XP d 64 [.ref (b + 9), .int (nI s)] h = some (some (.int (nI (sgA l x))), h) := by
  obtain ⟨R, P, C, V, B, r1⟩ := B
  have q := r1 s hs
  rw [hx] at q
  have q : rowIs l R P C V s x := q
  rw [q_signsOf B.T (by omega)]
  have hle : ∀ b, sg1 (cX l x) (vX l x) b ≤ 2 := by intro b; unfold sg1; split; omega; split <;> omega
  have a1 := hle 64
  have a2 := hle 32
  have a3 := hle 16
  have a4 := hle 8
  have a5 := hle 4
  have a6 := hle 2
  rw [sgn_eq q (by decide), sgn_eq q (by decide), sgn_eq q (by decide), sgn_eq q (by decide), sgn_eq q (by decide), sgn_eq q (by decide), sgn_eq q (by decide)]
  unfold sgA
  simp (disch := omega) only [pk_mul, nI_add, Nat.zero_mul, Nat.zero_add]
theorem q_kaB (B : Brd h b l σ) {s : Nat} (hs : s < 16) : xc XP (d + 3) 66 [.ref (b + 9), .int (nI s)] h = some (some (.int (nI (ct (fun k => decide (tS l σ k = some s)) 128))), h) := by
  obtain ⟨R, P, C, V, B, r1⟩ := B
  rw [q_keysAnsweredBy B.T, ct_congr (q := fun k => decide (tS l σ k = some s)) (fun j hj => ?_)]
  rw [ansS_eq B.L.2.1 r1]
  apply decide_eq_decide.mpr
  rw [oI_eq (fun j hj => by have := tS_lt hj; omega) (by omega)]
theorem q_rfB (B : Brd h b l σ) {k : Nat} : xc XP (d + 2) 67 [.ref (b + 9), .int (nI k)] h = some (some (.int (nI (ct (fitS l σ k) 16))), h) := by
  obtain ⟨R, P, C, V, B, r1⟩ := B
  rw [q_rowsThatFit B.T, ct_congr (fun j hj => fts_eq B.L.2.1 (r1 j hj))]
theorem q_mtB (B : Brd h b l σ) {s t : Nat} {x y : Nat × Nat} (hs : s < 16) (ht : t < 16) (hx : σ s = some x) (hy : σ t = some y) : xc XP d 53 [.ref (b + 9), .int (nI s), .int (nI t)] h = some (some (.int (bI (mtX l x y))), h) := by
  obtain ⟨R, P, C, V, B, r1⟩ := B
  have q := r1 s hs
  have q2 := r1 t ht
  rw [hx] at q
  rw [hy] at q2
  rw [q_meets B.T (by omega) (by omega), mts_eq q q2]
theorem q_loB (B : Brd h b l σ) {s : Nat} {x : Nat × Nat} (hs : s < 16) (hx : σ s = some x) : xc XP (d + 2) 58 [.ref (b + 9), .int (nI s)] h = some (some (.int (oI (loA l σ x))), h) := by
  obtain ⟨R, P, C, V, B, r1⟩ := B
  have q := r1 s hs
  rw [hx] at q
  have hc := ceA_le l σ x
  rw [q_lowestOpen B.T (by omega), flN_eq B.L.2.1 r1 q, ceN_eq B.L.2.1 r1 q]
  unfold loA
  rw [fup_congr (fun j h1 h2 => slIs_emp B.L.2.1 (r1 j (by omega)))]
  rfl
theorem q_hiB (B : Brd h b l σ) {s : Nat} {x : Nat × Nat} (hs : s < 16) (hx : σ s = some x) : xc XP (d + 2) 59 [.ref (b + 9), .int (nI s)] h = some (some (.int (oI (fdn (fun s => decide (flA l σ x ≤ s) && emA σ s) (ceA l σ x)))), h) := by
  obtain ⟨R, P, C, V, B, r1⟩ := B
  have q := r1 s hs
  rw [hx] at q
  have hc := ceA_le l σ x
  rw [q_highestOpen B.T (by omega), flN_eq B.L.2.1 r1 q, ceN_eq B.L.2.1 r1 q]
  rw [fdn_congr (q := fun s => decide (flA l σ x ≤ s) && emA σ s) (fun j hj => by rw [slIs_emp B.L.2.1 (r1 j (by omega))]; rfl)]
theorem q_nopB (B : Brd h b l σ) {s : Nat} {x : Nat × Nat} (hs : s < 16) (hx : σ s = some x) : xc XP (d + 2) 60 [.ref (b + 9), .int (nI s)] h = some (some (.int (nI (ct (fun s => decide (flA l σ x ≤ s) && emA σ s) (ceA l σ x)))), h) := by
  obtain ⟨R, P, C, V, B, r1⟩ := B
  have q := r1 s hs
  rw [hx] at q
  have hc := ceA_le l σ x
  rw [q_openSlots B.T (by omega), flN_eq B.L.2.1 r1 q, ceN_eq B.L.2.1 r1 q]
  rw [ct_congr (q := fun s => decide (flA l σ x ≤ s) && emA σ s) (fun j hj => by rw [slIs_emp B.L.2.1 (r1 j (by omega))]; rfl)]
theorem Brd.lP (B : Brd h b l σ) {s : Nat} {x : Nat × Nat} (hs : s < 16) (hx : σ s = some x) : (xgf h (b + 9) 5 1 = some (.ref (b + 11))) ∧ xld h (b + 11) 0 (nI s) = some (nI x.2) := by
  obtain ⟨R, P, C, V, B, r1⟩ := B
  have q := r1 s hs
  rw [hx] at q
  refine ⟨B.T.f1, ?_⟩
  rw [← q.2.2.2.1]
  exact B.T.lP s (by omega)
end AskB
