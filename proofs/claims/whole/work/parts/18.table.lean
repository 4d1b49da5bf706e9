/-! THE TABLE's reads -/
def Tab (h : XH) (t : Nat) (R P C V : Nat → Int32) : Prop :=
  h[t]? = some (.inl (5, [.ref (t + 1), .ref (t + 2), .ref (t + 3), .ref (t + 4)])) ∧ h[t + 1]? = some (ia 17 R) ∧ h[t + 2]? = some (ia 17 P) ∧ h[t + 3]? = some (ia 17 C) ∧ h[t + 4]? = some (ia 17 V)
theorem q_max {d : Nat} {x y : Int32} {h : XH} : xc XP d 182 [.int x, .int y] h = some (some (.int (if x < y then y else x)), h) := by
  rw [n_J9_max_7cf53]
  simp only [e_J9_max_7cf53_0, e_J9_max_7cf53_1, e_J9_max_7cf53_2, e_J9_max_7cf53_3, e_J9_max_7cf53_4, e_J9_max_7cf53_5, e_J9_max_7cf53_6]
  by_cases hr : x < y <;> simp [hr]
theorem q_min {d : Nat} {x y : Int32} {h : XH} : xc XP d 183 [.int x, .int y] h = some (some (.int (if y < x then y else x)), h) := by
  rw [n_J9_min_7cf53]
  simp only [e_J9_min_7cf53_0, e_J9_min_7cf53_1, e_J9_min_7cf53_2, e_J9_min_7cf53_3, e_J9_min_7cf53_4, e_J9_min_7cf53_5, e_J9_min_7cf53_6]
  by_cases hr : y < x <;> simp [hr]
def bc1 (x : Int32) : Int32 := x - (j_ushr x (nI 1) &&& nI 1431655765)
def bc2 (x : Int32) : Int32 := (x &&& nI 858993459) + (j_ushr x (nI 2) &&& nI 858993459)
def bc3 (x : Int32) : Int32 := x + j_ushr x (nI 4) &&& nI 252645135
def bc4 (x : Int32) : Int32 := x + j_ushr x (nI 8)
def bc5 (x : Int32) : Int32 := x + j_ushr x (nI 16)
/-- Integer.bitCount -/
def bcn (x : Int32) : Int32 := bc5 (bc4 (bc3 (bc2 (bc1 x)))) &&& nI 63
theorem q_bitCount {d : Nat} {x : Int32} {h : XH} : xc XP d 181 [.int x] h = some (some (.int (bcn x)), h) := by
  rw [n_J6_bitCount_0f7a4]
  simp only [e_J6_bitCount_0f7a4_0, e_J6_bitCount_0f7a4_1, e_J6_bitCount_0f7a4_2, e_J6_bitCount_0f7a4_3, e_J6_bitCount_0f7a4_4, e_J6_bitCount_0f7a4_5, e_J6_bitCount_0f7a4_6, e_J6_bitCount_0f7a4_7, e_J6_bitCount_0f7a4_8, e_J6_bitCount_0f7a4_9, e_J6_bitCount_0f7a4_10, e_J6_bitCount_0f7a4_11, e_J6_bitCount_0f7a4_12, e_J6_bitCount_0f7a4_13, e_J6_bitCount_0f7a4_14, e_J6_bitCount_0f7a4_15, e_J6_bitCount_0f7a4_16, e_J6_bitCount_0f7a4_17, e_J6_bitCount_0f7a4_18, e_J6_bitCount_0f7a4_19, e_J6_bitCount_0f7a4_20, e_J6_bitCount_0f7a4_21, e_J6_bitCount_0f7a4_22, e_J6_bitCount_0f7a4_23, e_J6_bitCount_0f7a4_24, e_J6_bitCount_0f7a4_25, e_J6_bitCount_0f7a4_26, e_J6_bitCount_0f7a4_27, e_J6_bitCount_0f7a4_28, e_J6_bitCount_0f7a4_29, e_J6_bitCount_0f7a4_30, e_J6_bitCount_0f7a4_31, e_J6_bitCount_0f7a4_32, e_J6_bitCount_0f7a4_33, e_J6_bitCount_0f7a4_34, e_J6_bitCount_0f7a4_35, e_J6_bitCount_0f7a4_36, e_J6_bitCount_0f7a4_37, e_J6_bitCount_0f7a4_38, e_J6_bitCount_0f7a4_39, e_J6_bitCount_0f7a4_40, e_J6_bitCount_0f7a4_41]
  rfl
section TabR
variable {h : XH} {t : Nat} {R P C V : Nat → Int32}
theorem Tab.c (T : Tab h t R P C V) : xcls h (.ref t) = some 5 := xcls_o T.1
theorem Tab.f0 (T : Tab h t R P C V) : xgf h t 5 0 = some (.ref (t + 1)) := xgf_o T.1 0
theorem Tab.f1 (T : Tab h t R P C V) : xgf h t 5 1 = some (.ref (t + 2)) := xgf_o T.1 1
theorem Tab.f2 (T : Tab h t R P C V) : xgf h t 5 2 = some (.ref (t + 3)) := xgf_o T.1 2
theorem Tab.f3 (T : Tab h t R P C V) : xgf h t 5 3 = some (.ref (t + 4)) := xgf_o T.1 3
theorem Tab.lR (T : Tab h t R P C V) (k : Nat) (hk : k < 17) : xld h (t + 1) 0 (nI k) = some (R k) := xld_ia T.2.1 (by decide) hk
theorem Tab.lP (T : Tab h t R P C V) (k : Nat) (hk : k < 17) : xld h (t + 2) 0 (nI k) = some (P k) := xld_ia T.2.2.1 (by decide) hk
theorem Tab.lC (T : Tab h t R P C V) (k : Nat) (hk : k < 17) : xld h (t + 3) 0 (nI k) = some (C k) := xld_ia T.2.2.2.1 (by decide) hk
theorem Tab.lV (T : Tab h t R P C V) (k : Nat) (hk : k < 17) : xld h (t + 4) 0 (nI k) = some (V k) := xld_ia T.2.2.2.2 (by decide) hk
def emp (R : Nat → Int32) (s : Nat) : Bool := decide (R s = -4)
def mts (C V : Nat → Int32) (a b : Nat) : Bool := decide ((V a ^^^ V b) &&& C a &&& C b = nI 0)
theorem q_isEmpty (T : Tab h t R P C V) {d k : Nat} (hk : k < 17) : xc XP d 46 [.ref t, .int (nI k)] h = some (some (.int (bI (emp R k))), h) := by
  rw [n_X5_isEmpty]
  simp (disch := omega) only [e_X5_isEmpty_0, e_X5_isEmpty_1, e_X5_isEmpty_2, e_X5_isEmpty_3, e_X5_isEmpty_4, e_X5_isEmpty_5, e_X5_isEmpty_6, e_X5_isEmpty_7, e_X5_isEmpty_8, e_X5_isEmpty_9, T.f0, T.lR, Option.bind_some, rk_0, rk_1, if_t]
  by_cases hr : R k = -4 <;> simp [hr, emp, bI]
theorem q_meets (T : Tab h t R P C V) {d a b : Nat} (ha : a < 17) (hb : b < 17) : xc XP d 53 [.ref t, .int (nI a), .int (nI b)] h = some (some (.int (bI (mts C V a b))), h) := by
  rw [n_X5_meets]
  simp (disch := omega) only [e_X5_meets_0, e_X5_meets_1, e_X5_meets_2, e_X5_meets_3, e_X5_meets_4, e_X5_meets_5, e_X5_meets_6, e_X5_meets_7, e_X5_meets_8, e_X5_meets_9, e_X5_meets_10, e_X5_meets_11, e_X5_meets_12, e_X5_meets_13, e_X5_meets_14, e_X5_meets_15, e_X5_meets_16, e_X5_meets_17, e_X5_meets_18, e_X5_meets_19, e_X5_meets_20, e_X5_meets_21, e_X5_meets_22, e_X5_meets_23, T.f2, T.f3, T.lC, T.lV, Option.bind_some, rk_0, rk_1, if_t]
  by_cases hr : (V a ^^^ V b) &&& C a &&& C b = nI 0 <;> simp [hr, mts, bI]
/-- a row fits a key -/
def fts (R C V : Nat → Int32) (x : Int32) (s : Nat) : Bool := !emp R s && decide ((x ^^^ V s) &&& C s = nI 0)
theorem q_fits (T : Tab h t R P C V) {d s : Nat} {x : Int32} (hs : s < 17) : xc XP (d + 1) 52 [.ref t, .int (nI s), .int x] h = some (some (.int (bI (fts R C V x s))), h) := by
  rw [n_X5_fits]
  have hc := T.c
  simp (disch := first | assumption | omega) only [e_X5_fits_0, e_X5_fits_1, e_X5_fits_2, e_X5_fits_3, e_X5_fits_4, e_X5_fits_5, e_X5_fits_6, e_X5_fits_7, e_X5_fits_8, e_X5_fits_9, e_X5_fits_10, e_X5_fits_11, e_X5_fits_12, e_X5_fits_13, e_X5_fits_14, e_X5_fits_15, e_X5_fits_16, e_X5_fits_17, e_X5_fits_18, e_X5_fits_19, T.f2, T.f3, T.lC, T.lV, q_isEmpty T, xbk_i, bI_0, Option.bind_some, rk_0, rk_1, if_t]
  unfold fts
  cases emp R s <;> by_cases hr : (x ^^^ V s) &&& C s = nI 0 <;> simp [hr, bI]
theorem q_onlySignUnlike (T : Tab h t R P C V) {d a b : Nat} (ha : a < 17) (hb : b < 17) : xc XP (d + 1) 54 [.ref t, .int (nI a), .int (nI b)] h = some (some (.int (if C a = C b ∧ bcn (V a ^^^ V b) = nI 1 then V a ^^^ V b else nI 0)), h) := by
  rw [n_X5_onlySignUnlike]
  simp (disch := omega) only [e_X5_onlySignUnlike_0, e_X5_onlySignUnlike_1, e_X5_onlySignUnlike_2, e_X5_onlySignUnlike_3, e_X5_onlySignUnlike_4, e_X5_onlySignUnlike_5, e_X5_onlySignUnlike_6, e_X5_onlySignUnlike_7, e_X5_onlySignUnlike_8, e_X5_onlySignUnlike_9, e_X5_onlySignUnlike_10, e_X5_onlySignUnlike_11, e_X5_onlySignUnlike_12, e_X5_onlySignUnlike_13, e_X5_onlySignUnlike_14, e_X5_onlySignUnlike_15, e_X5_onlySignUnlike_16, e_X5_onlySignUnlike_17, e_X5_onlySignUnlike_18, e_X5_onlySignUnlike_19, e_X5_onlySignUnlike_20, e_X5_onlySignUnlike_21, e_X5_onlySignUnlike_22, e_X5_onlySignUnlike_23, e_X5_onlySignUnlike_24, e_X5_onlySignUnlike_25, e_X5_onlySignUnlike_26, T.f2, T.f3, T.lC, T.lV, q_bitCount, xbk_i, Option.bind_some]
  by_cases h1 : C a = C b <;> by_cases h2 : bcn (V a ^^^ V b) = nI 1 <;> simp [h1, h2]
/-- s must stay below the row of place -/
def blw (R C V : Nat → Int32) (place s : Nat) : Bool := !emp R s && (decide (R s < R place) && mts C V s place)
def abv (R C V : Nat → Int32) (place s : Nat) : Bool := !emp R s && (decide (R place < R s) && mts C V s place)
/-- the lowest slot by the floor, the slot behind the highest by the ceiling -/
def flN (R C V : Nat → Int32) (place : Nat) : Nat := match fdn (blw R C V place) 16 with
  | some s => s + 1
  | none => 0
def ceN (R C V : Nat → Int32) (place : Nat) : Nat := match fup (abv R C V place) 0 16 with
  | some s => s
  | none => 16
theorem flN_le (R C V : Nat → Int32) (p : Nat) : flN R C V p ≤ 16 := by
  unfold flN
  cases hq : fdn (blw R C V p) 16 with
  | none => simp
  | some s => have := (fdn_some.mp hq).1; simp; omega
theorem ceN_le (R C V : Nat → Int32) (p : Nat) : ceN R C V p ≤ 16 := by
  unfold ceN
  cases hq : fup (abv R C V p) 0 16 with
  | none => simp
  | some s => have := (fup_some.mp hq).2.1; simp; omega
theorem q_floorOf (T : Tab h t R P C V) {d p : Nat} (hp : p < 17) : xc XP (d + 1) 55 [.ref t, .int (nI p)] h = some (some (.int (nI (flN R C V p) + (-1))), h) := by
  rw [n_X5_floorOf]
  simp only [e_X5_floorOf_0, e_X5_floorOf_1]
  have hc := T.c
  have key := loop_fdn (fun k => xe XP (d + 1) 55 (2, [.ref t, .int (nI p), .int (nI k + (-1))], [], h)) (blw R C V p) (fun s => some (some (.int (nI s)), h)) 16 (by
    intro j hj
    rw [pk_m1, e_X5_floorOf_2]
    simp (disch := first | assumption | omega) only [e_X5_floorOf_3, e_X5_floorOf_4, e_X5_floorOf_5, e_X5_floorOf_6, e_X5_floorOf_7, e_X5_floorOf_8, e_X5_floorOf_9, e_X5_floorOf_10, e_X5_floorOf_11, e_X5_floorOf_12, e_X5_floorOf_13, e_X5_floorOf_14, e_X5_floorOf_15, e_X5_floorOf_16, e_X5_floorOf_17, e_X5_floorOf_18, e_X5_floorOf_19, e_X5_floorOf_20, e_X5_floorOf_21, e_X5_floorOf_22, e_X5_floorOf_23, e_X5_floorOf_24, e_X5_floorOf_25, e_X5_floorOf_26, e_X5_floorOf_27, T.f0, T.lR, q_isEmpty T, q_meets T, xbk_i, bI_0, Option.bind_some, nI_lt0, if_f]
    unfold blw
    by_cases hr : R p ≤ R j
    · have hr2 := Int32.not_lt.mpr hr
      cases emp R j <;> cases mts C V j p <;> simp [hr, hr2]
    · have hr2 := Int32.not_le.mp hr
      cases emp R j <;> cases mts C V j p <;> simp [hr, hr2])
  rw [show nI 15 = nI 16 + (-1) from rfl, key]
  unfold flN
  cases fdn (blw R C V p) 16 with
  | some s => simp only [pk_m1]
  | none =>
    simp only [show nI 0 + (-1) = (-1 : Int32) from rfl, e_X5_floorOf_2, e_X5_floorOf_3, e_X5_floorOf_26, e_X5_floorOf_27, m1_lt0, if_true]
theorem q_ceilingOf (T : Tab h t R P C V) {d p : Nat} (hp : p < 17) : xc XP (d + 1) 56 [.ref t, .int (nI p)] h = some (some (.int (nI (ceN R C V p))), h) := by
  rw [n_X5_ceilingOf]
  simp only [e_X5_ceilingOf_0, e_X5_ceilingOf_1]
  have hc := T.c
  have key := loop_fup (fun k => xe XP (d + 1) 56 (2, [.ref t, .int (nI p), .int (nI k)], [], h)) (abv R C V p) (fun s => some (some (.int (nI s)), h)) 16 (by
    intro j hj
    rw [e_X5_ceilingOf_2]
    simp (disch := first | assumption | omega) only [e_X5_ceilingOf_3, e_X5_ceilingOf_4, e_X5_ceilingOf_5, e_X5_ceilingOf_6, e_X5_ceilingOf_7, e_X5_ceilingOf_8, e_X5_ceilingOf_9, e_X5_ceilingOf_10, e_X5_ceilingOf_11, e_X5_ceilingOf_12, e_X5_ceilingOf_13, e_X5_ceilingOf_14, e_X5_ceilingOf_15, e_X5_ceilingOf_16, e_X5_ceilingOf_17, e_X5_ceilingOf_18, e_X5_ceilingOf_19, e_X5_ceilingOf_20, e_X5_ceilingOf_21, e_X5_ceilingOf_22, e_X5_ceilingOf_23, e_X5_ceilingOf_24, e_X5_ceilingOf_25, e_X5_ceilingOf_26, e_X5_ceilingOf_27, e_X5_ceilingOf_28, T.f0, T.lR, q_isEmpty T, q_meets T, xbk_i, bI_0, Option.bind_some, nI_leI, nI_add, if_f]
    unfold abv
    by_cases hr : R j ≤ R p
    · have hr2 := Int32.not_lt.mpr hr
      cases emp R j <;> cases mts C V j p <;> simp [hr, hr2]
    · have hr2 := Int32.not_le.mp hr
      cases emp R j <;> cases mts C V j p <;> simp [hr, hr2]) 16 0 rfl
  rw [key]
  unfold ceN
  cases fup (abv R C V p) 0 16 with
  | some s => rfl
  | none =>
    simp (disch := omega) only [e_X5_ceilingOf_2, e_X5_ceilingOf_3, e_X5_ceilingOf_4, e_X5_ceilingOf_27, e_X5_ceilingOf_28, nI_leI, if_t]
def opn (R C V : Nat → Int32) (p s : Nat) : Bool := emp R s && (decide (flN R C V p ≤ s) && decide (s < ceN R C V p))
theorem q_isOpen (T : Tab h t R P C V) {d p s : Nat} (hp : p < 17) (hs : s < 17) : xc XP (d + 2) 57 [.ref t, .int (nI p), .int (nI s)] h = some (some (.int (bI (opn R C V p s))), h) := by
  rw [n_X5_isOpen]
  have hc := T.c
  have h1 := flN_le R C V p
  have h2 := ceN_le R C V p
  simp (disch := first | assumption | omega) only [e_X5_isOpen_0, e_X5_isOpen_1, e_X5_isOpen_2, e_X5_isOpen_3, e_X5_isOpen_4, e_X5_isOpen_5, e_X5_isOpen_6, e_X5_isOpen_7, e_X5_isOpen_8, e_X5_isOpen_9, e_X5_isOpen_10, e_X5_isOpen_11, e_X5_isOpen_12, e_X5_isOpen_13, e_X5_isOpen_14, e_X5_isOpen_15, e_X5_isOpen_16, e_X5_isOpen_17, q_isEmpty T, q_floorOf T, q_ceilingOf T, xbk_i, bI_0, nI_lem1, nI_leI, rk_0, rk_1, if_t]
  unfold opn
  cases emp R s <;> by_cases g1 : s < flN R C V p <;> by_cases g2 : ceN R C V p ≤ s <;> simp [g1, g2, bI] <;> omega
theorem q_lowestOpen (T : Tab h t R P C V) {d p : Nat} (hp : p < 17) : xc XP (d + 2) 58 [.ref t, .int (nI p)] h = some (some (.int (oI (fup (emp R) (flN R C V p) (ceN R C V p - flN R C V p)))), h) := by
  rw [n_X5_lowestOpen]
  have hc := T.c
  have h1 := flN_le R C V p
  have h2 := ceN_le R C V p
  simp (disch := first | assumption | omega) only [e_X5_lowestOpen_0, e_X5_lowestOpen_1, e_X5_lowestOpen_2, e_X5_lowestOpen_3, e_X5_lowestOpen_4, e_X5_lowestOpen_5, e_X5_lowestOpen_6, e_X5_lowestOpen_7, e_X5_lowestOpen_8, e_X5_lowestOpen_9, q_floorOf T, q_ceilingOf T, xbk_i, nI_m1p1]
  generalize hf : flN R C V p = f at *
  generalize hg : ceN R C V p = g at *
  by_cases hfg : f ≤ g
  · have key := loop_fup (fun k => xe XP (d + 2) 58 (10, [.ref t, .int (nI p), .int (nI g), .int (nI k)], [], h)) (emp R) (fun s => some (some (.int (nI s)), h)) g (by
      intro j hj
      rw [e_X5_lowestOpen_10]
      simp (disch := first | assumption | omega) only [e_X5_lowestOpen_11, e_X5_lowestOpen_12, e_X5_lowestOpen_13, e_X5_lowestOpen_14, e_X5_lowestOpen_15, e_X5_lowestOpen_16, e_X5_lowestOpen_17, e_X5_lowestOpen_18, e_X5_lowestOpen_19, e_X5_lowestOpen_20, q_isEmpty T, xbk_i, bI_0, nI_leI, nI_add, if_f]
      cases emp R j <;> simp) (g - f) f (by omega)
    rw [key]
    cases fup (emp R) f (g - f) with
    | some s => rfl
    | none =>
      simp (disch := omega) only [e_X5_lowestOpen_10, e_X5_lowestOpen_11, e_X5_lowestOpen_12, e_X5_lowestOpen_21, e_X5_lowestOpen_22, nI_leI, if_t]
      rfl
  · rw [show g - f = 0 by omega]
    simp (disch := omega) only [e_X5_lowestOpen_10, e_X5_lowestOpen_11, e_X5_lowestOpen_12, e_X5_lowestOpen_21, e_X5_lowestOpen_22, nI_leI, if_t]
    rfl
theorem q_highestOpen (T : Tab h t R P C V) {d p : Nat} (hp : p < 17) : xc XP (d + 2) 59 [.ref t, .int (nI p)] h = some (some (.int (oI (fdn (fun s => decide (flN R C V p ≤ s) && emp R s) (ceN R C V p)))), h) := by
  rw [n_X5_highestOpen]
  have hc := T.c
  have h1 := flN_le R C V p
  have h2 := ceN_le R C V p
  simp (disch := first | assumption | omega) only [e_X5_highestOpen_0, e_X5_highestOpen_1, e_X5_highestOpen_2, e_X5_highestOpen_3, e_X5_highestOpen_4, e_X5_highestOpen_5, e_X5_highestOpen_6, e_X5_highestOpen_7, e_X5_highestOpen_8, e_X5_highestOpen_9, q_floorOf T, q_ceilingOf T, xbk_i, nI_sub1]
  generalize hf : flN R C V p = f at *
  generalize hg : ceN R C V p = g at *
  have key : ∀ k, k ≤ 16 → xe XP (d + 2) 59 (10, [.ref t, .int (nI p), .int (nI f + (-1)), .int (nI k + (-1))], [], h) = some (some (.int (oI (fdn (fun s => decide (f ≤ s) && emp R s) k))), h) := by
    intro k
    induction k with
    | zero =>
      intro _
      simp (disch := omega) only [e_X5_highestOpen_10, e_X5_highestOpen_11, e_X5_highestOpen_12, e_X5_highestOpen_21, e_X5_highestOpen_22, nI_m1lem1, if_t]
      rfl
    | succ k ih =>
      intro hk
      rw [e_X5_highestOpen_10]
      unfold fdn
      by_cases hfk : f ≤ k
      · rw [pk_m1]
        simp (disch := first | assumption | omega) only [e_X5_highestOpen_11, e_X5_highestOpen_12, e_X5_highestOpen_13, e_X5_highestOpen_14, e_X5_highestOpen_15, e_X5_highestOpen_16, e_X5_highestOpen_17, e_X5_highestOpen_18, e_X5_highestOpen_19, e_X5_highestOpen_20, q_isEmpty T, xbk_i, bI_0, nI_lem1, if_f]
        rw [ih (by omega)]
        cases emp R k <;> simp [hfk, oI]
      · simp (disch := omega) only [e_X5_highestOpen_11, e_X5_highestOpen_12, e_X5_highestOpen_21, e_X5_highestOpen_22, nI_m1lem1, if_t]
        have hn : fdn (fun s => decide (f ≤ s) && emp R s) k = none := fdn_none.mpr (fun j hj => by simp; intro q; omega)
        simp [hfk, hn, oI]
  exact key g h2
theorem q_openSlots (T : Tab h t R P C V) {d p : Nat} (hp : p < 17) : xc XP (d + 2) 60 [.ref t, .int (nI p)] h = some (some (.int (nI (ct (fun s => decide (flN R C V p ≤ s) && emp R s) (ceN R C V p)))), h) := by
  rw [n_X5_openSlots]
  have hc := T.c
  have h1 := flN_le R C V p
  have h2 := ceN_le R C V p
  simp (disch := first | assumption | omega) only [e_X5_openSlots_0, e_X5_openSlots_1, e_X5_openSlots_2, e_X5_openSlots_3, e_X5_openSlots_4, e_X5_openSlots_5, e_X5_openSlots_6, e_X5_openSlots_7, e_X5_openSlots_8, e_X5_openSlots_9, e_X5_openSlots_10, e_X5_openSlots_11, q_floorOf T, q_ceilingOf T, xbk_i, nI_m1p1]
  generalize hf : flN R C V p = f at *
  generalize hg : ceN R C V p = g at *
  by_cases hfg : f ≤ g
  · have key := loop_ctr (fun k c => xe XP (d + 2) 60 (12, [.ref t, .int (nI p), .int (nI g), .int (nI c), .int (nI k)], [], h)) (emp R) f g (by
      intro j c hj1 hj hc2
      rw [e_X5_openSlots_12]
      simp (disch := first | assumption | omega) only [e_X5_openSlots_13, e_X5_openSlots_14, e_X5_openSlots_15, e_X5_openSlots_16, e_X5_openSlots_17, e_X5_openSlots_18, e_X5_openSlots_19, e_X5_openSlots_20, e_X5_openSlots_21, e_X5_openSlots_22, e_X5_openSlots_23, e_X5_openSlots_24, e_X5_openSlots_25, e_X5_openSlots_26, q_isEmpty T, xbk_i, bI_0, nI_leI, nI_add, if_f]
      cases emp R j <;> simp) (g - f) (by omega)
    rw [key, show f + (g - f) = g by omega]
    simp (disch := omega) only [e_X5_openSlots_12, e_X5_openSlots_13, e_X5_openSlots_14, e_X5_openSlots_27, e_X5_openSlots_28, nI_leI, if_t]
  · have hn : ∀ m, m ≤ g → ct (fun s => decide (f ≤ s) && emp R s) m = 0 := by
      intro m
      induction m with
      | zero => intro _; rfl
      | succ m ih =>
        intro hm
        unfold ct
        rw [ih (by omega)]
        simp
        intro q
        omega
    rw [hn g (Nat.le_refl _)]
    simp (disch := omega) only [e_X5_openSlots_12, e_X5_openSlots_13, e_X5_openSlots_14, e_X5_openSlots_27, e_X5_openSlots_28, nI_leI, if_t]
end TabR
