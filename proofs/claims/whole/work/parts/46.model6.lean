/-! THE MODEL: masks, slots, order -/
def mkO (l : List Rl) (o : Option (Nat × Nat)) : Nat := match o with
  | none => 0
  | some x => mk l x
def Msk (g : Nat → Int32) (l : List Rl) (σ : Sl) : Prop := ∀ s, s < 16 → g s = nI (mkO l (σ s))
def cnO (l : List Rl) (σ : Sl) (t : Nat) (y : Nat × Nat) (but : Option Nat) (s : Nat) : Bool := match σ s with
  | none => true
  | some z => if some s = but ∨ s = t ∨ z.1 = y.1 ∨ mtX l y z = false then true else decide (decide (rkX l y < rkX l z) = decide (t < s))
def inO (l : List Rl) (σ : Sl) (t : Nat) (y : Nat × Nat) (but : Option Nat) : Bool := (fup (fun s => !cnO l σ t y but s) 0 16).isNone
theorem mtX_symm (l : List Rl) (x y : Nat × Nat) : mtX l x y = mtX l y x := by
  unfold mtX
  rw [Nat.xor_comm, Nat.and_assoc, Nat.and_comm (rwC (rlN l x.1) x.2), ← Nat.and_assoc]
section Md2R
variable {h : XH} {m : Nat} {cm ca lm ra nu nr mm nm : Int32} {f g : Nat → Int32} {l : List Rl} {σ : Sl} {d : Nat}
theorem rs_none (A : h[m + 1]? = some (ia 113 f)) (R : RwS f l σ) {s : Nat} (hs : s < 16) (hx : σ s = none) : xld h (m + 1) 0 (nI (81 + s)) = some (-4) := by
  have q := R s hs
  rw [hx] at q
  rw [ra_ld A (81 + s) (by omega)]
  exact congrArg some q
theorem rs_some (A : h[m + 1]? = some (ia 113 f)) (R : RwS f l σ) {s : Nat} {x : Nat × Nat} (hs : s < 16) (hx : σ s = some x) : x.1 < l.length ∧ x.2 < rwR (rlN l x.1) ∧ xld h (m + 1) 0 (nI (81 + s)) = some (nI x.1) ∧ xld h (m + 1) 0 (nI (97 + s)) = some (nI x.2) := by
  have q := R s hs
  rw [hx] at q
  obtain ⟨q1, q2, q3, q4⟩ := q
  rw [ra_ld A (81 + s) (by omega), ra_ld A (97 + s) (by omega), q3, q4]
  exact ⟨q1, q2, rfl, rfl⟩
theorem mg_ld (G : h[m + 4]? = some (ia 16 g)) (K : Msk g l σ) {s : Nat} (hs : s < 16) : xld h (m + 4) 0 (nI s) = some (nI (mkO l (σ s))) := by
  rw [xld_ia G (by decide) hs, K s hs]
theorem q_laysMasks (M : MdO h m cm ca lm ra nu nr mm nm) (A : h[m + 1]? = some (ia 113 f)) (L : RwL f l) (R : RwS f l σ) (G : h[m + 4]? = some (ia 16 g)) : ∃ h' g', xc XP (d + 4) 122 [.ref m] h = some (none, h') ∧ h'[m + 4]? = some (ia 16 g') ∧ Msk g' l σ ∧ Same h h' (m + 4) (m + 5) := by
  rw [n_X8_laysMasks]
  simp only [e_X8_laysMasks_0, e_X8_laysMasks_1]
  have l1 := L.1
  have key : ∀ n s (k : XH) (g1 : Nat → Int32), s + n = 16 → k[m + 4]? = some (ia 16 g1) → (∀ j, j < s → g1 j = nI (mkO l (σ j))) → Same h k (m + 4) (m + 5) →
      ∃ h' g', xe XP (d + 4) 122 (2, [.ref m, .int (nI s)], [], k) = some (none, h') ∧ h'[m + 4]? = some (ia 16 g') ∧ Msk g' l σ ∧ Same h h' (m + 4) (m + 5) := by
    intro n
    induction n with
    | zero =>
      intro s k g1 hs G1 K1 s1
      refine ⟨k, g1, ?_, G1, fun j hj => K1 j (by omega), s1⟩
      simp (disch := first | assumption | omega) only [e_X8_laysMasks_2, e_X8_laysMasks_3, e_X8_laysMasks_4, e_X8_laysMasks_35, nI_leI, if_t]
    | succ n ih =>
      intro s k g1 hs G1 K1 s1
      have M1 : MdO k m cm ca lm ra nu nr mm nm := by unfold MdO; rw [s1.2 _ (by omega)]; exact M
      have A1 : k[m + 1]? = some (ia 113 f) := by rw [s1.2 _ (by omega)]; exact A
      have hst := xst_ia G1 (by decide) (show s < 16 by omega) (nI (mkO l (σ s)))
      generalize hk2 : k.set (m + 4) (ia 16 (upd g1 s (nI (mkO l (σ s))))) = k2 at hst
      have G2 : k2[m + 4]? = some (ia 16 (upd g1 s (nI (mkO l (σ s))))) := by rw [← hk2]; exact get_set G1 _
      have s2 : Same h k2 (m + 4) (m + 5) := by rw [← hk2]; exact s1.set (by omega) (by omega) _
      obtain ⟨h', g', e, r⟩ := ih (s + 1) k2 _ (by omega) G2 (fun j hj => by
        by_cases q : j = s
        · rw [q]; exact upd_s
        · rw [upd_n q]; exact K1 j (by omega)) s2
      refine ⟨h', g', ?_, r⟩
      rw [e_X8_laysMasks_2]
      cases hx : σ s with
      | none =>
        have q1 := rs_none A1 R (by omega) hx
        rw [hx] at hst
        have hst : xst k (m + 4) 0 (nI s) (nI 0) = some k2 := hst
        simp (disch := first | assumption | omega) only [e_X8_laysMasks_3, e_X8_laysMasks_4, e_X8_laysMasks_5, e_X8_laysMasks_6, e_X8_laysMasks_7, e_X8_laysMasks_8, e_X8_laysMasks_9, e_X8_laysMasks_10, e_X8_laysMasks_11, e_X8_laysMasks_12, e_X8_laysMasks_13, e_X8_laysMasks_14, e_X8_laysMasks_15, e_X8_laysMasks_16, e_X8_laysMasks_17, e_X8_laysMasks_18, e_X8_laysMasks_19, e_X8_laysMasks_20, e_X8_laysMasks_21, e_X8_laysMasks_22, e_X8_laysMasks_23, e_X8_laysMasks_24, e_X8_laysMasks_25, e_X8_laysMasks_26, e_X8_laysMasks_27, e_X8_laysMasks_28, e_X8_laysMasks_29, e_X8_laysMasks_30, e_X8_laysMasks_31, e_X8_laysMasks_32, e_X8_laysMasks_33, e_X8_laysMasks_34, nI_leI, if_f, M1.f0, M1.f5, Option.bind_some, nI_add, q1, m4_ge0, if_false, hst, e]
      | some x =>
        obtain ⟨x1, x2, q1, q2⟩ := rs_some A1 R (by omega) hx
        rw [hx] at hst
        have hst : xst k (m + 4) 0 (nI s) (nI (mk l (x.1, x.2))) = some k2 := hst
        simp (disch := first | assumption | omega) only [e_X8_laysMasks_3, e_X8_laysMasks_4, e_X8_laysMasks_5, e_X8_laysMasks_6, e_X8_laysMasks_7, e_X8_laysMasks_8, e_X8_laysMasks_9, e_X8_laysMasks_10, e_X8_laysMasks_11, e_X8_laysMasks_12, e_X8_laysMasks_13, e_X8_laysMasks_14, e_X8_laysMasks_15, e_X8_laysMasks_16, e_X8_laysMasks_17, e_X8_laysMasks_18, e_X8_laysMasks_19, e_X8_laysMasks_20, e_X8_laysMasks_21, e_X8_laysMasks_22, e_X8_laysMasks_23, e_X8_laysMasks_24, e_X8_laysMasks_25, e_X8_laysMasks_26, e_X8_laysMasks_27, e_X8_laysMasks_28, e_X8_laysMasks_29, e_X8_laysMasks_30, e_X8_laysMasks_31, e_X8_laysMasks_32, e_X8_laysMasks_33, e_X8_laysMasks_34, nI_leI, if_f, if_t, M1.f0, M1.f5, Option.bind_some, nI_add, q1, q2, nI_ge0, q_maskOf A1 L x1 x2, xbk_i, hst, e]
  exact key 16 0 h g (by omega) G (fun j hj => absurd hj (by omega)) (Same.refl _ _ _)
theorem q_slotOf (M : MdO h m cm ca lm ra nu nr mm nm) (A : h[m + 1]? = some (ia 113 f)) (L : RwL f l) (R : RwS f l σ) (G : h[m + 4]? = some (ia 16 g)) (K : Msk g l σ) {k : Nat} : xc XP (d + 1) 165 [.ref m, .int (nI k)] h = some (some (.int (oI (tS l σ k))), h) := by
  have l1 := L.1
  rw [n_X8_slotOf]
  simp only [e_X8_slotOf_0, e_X8_slotOf_1]
  have key := loop_fup (fun s => xe XP (d + 1) 165 (2, [.ref m, .int (nI k), .int (nI s)], [], h)) (fitS l σ k) (fun s => some (some (.int (nI s)), h)) 16 (by
    intro s hs
    rw [e_X8_slotOf_2]
    unfold fitS
    cases hx : σ s with
    | none =>
      have q1 := rs_none A R hs hx
      simp (disch := first | assumption | omega) only [e_X8_slotOf_3, e_X8_slotOf_4, e_X8_slotOf_5, e_X8_slotOf_6, e_X8_slotOf_7, e_X8_slotOf_8, e_X8_slotOf_9, e_X8_slotOf_10, e_X8_slotOf_11, e_X8_slotOf_12, e_X8_slotOf_13, e_X8_slotOf_14, e_X8_slotOf_15, e_X8_slotOf_16, e_X8_slotOf_17, e_X8_slotOf_18, e_X8_slotOf_19, e_X8_slotOf_20, e_X8_slotOf_21, e_X8_slotOf_22, nI_leI, if_f, M.f0, Option.bind_some, nI_add, q1, m4_lt0, if_true, Bool.false_eq_true, if_false]
    | some x =>
      obtain ⟨x1, x2, q1, q2⟩ := rs_some A R hs hx
      have q3 := mg_ld G K hs
      rw [hx] at q3
      have q3 : xld h (m + 4) 0 (nI s) = some (nI (mk l x)) := q3
      simp (disch := first | assumption | omega) only [e_X8_slotOf_3, e_X8_slotOf_4, e_X8_slotOf_5, e_X8_slotOf_6, e_X8_slotOf_7, e_X8_slotOf_8, e_X8_slotOf_9, e_X8_slotOf_10, e_X8_slotOf_11, e_X8_slotOf_12, e_X8_slotOf_13, e_X8_slotOf_14, e_X8_slotOf_15, e_X8_slotOf_16, e_X8_slotOf_17, e_X8_slotOf_18, e_X8_slotOf_19, e_X8_slotOf_20, e_X8_slotOf_21, e_X8_slotOf_22, nI_leI, if_f, M.f0, M.f5, Option.bind_some, nI_add, q1, nI_lt0, q3, q_isFit, xbk_i, bI_0]
      by_cases q : fitX l x k = true <;> simp [q]) 16 0 rfl
  rw [key]
  unfold tS
  cases fup (fitS l σ k) 0 16 with
  | some s => rfl
  | none =>
    simp (disch := first | assumption | omega) only [e_X8_slotOf_2, e_X8_slotOf_3, e_X8_slotOf_4, e_X8_slotOf_23, e_X8_slotOf_24, nI_leI, if_t, Nat.le_refl, if_true]
    rfl
theorem q_inOrder (M : MdO h m cm ca lm ra nu nr mm nm) (A : h[m + 1]? = some (ia 113 f)) (L : RwL f l) (R : RwS f l σ) (G : h[m + 4]? = some (ia 16 g)) (K : Msk g l σ) {t : Nat} {y : Nat × Nat} {but : Option Nat} (ht : t < 16) (hy : y.1 < l.length) (hb : ∀ j, but = some j → j < 16) : xc XP (d + 1) 142 [.ref m, .int (nI t), .int (nI y.1), .int (nI (mk l y)), .int (oI but)] h = some (some (.int (bI (inO l σ t y but))), h) := by
  obtain ⟨l1, l2, l3, l4⟩ := L
  have ry := (l4 _ hy).1
  have vy := (l2 _ (rlN_mem hy)).1
  rw [n_X8_isInOrder]
  simp only [e_X8_isInOrder_0, e_X8_isInOrder_1, e_X8_isInOrder_2, e_X8_isInOrder_3]
  obtain ⟨Z, hZ⟩ : ∃ Z, Z = itr (fun s b => b && cnO l σ t y but s) true 16 := ⟨_, rfl⟩
  have key : ∀ n s (b : Bool) (w : Value), s + n = 16 → b = itr (fun s b => b && cnO l σ t y but s) true s → xe XP (d + 1) 142 (4, [.ref m, .int (nI t), .int (nI y.1), .int (nI (mk l y)), .int (oI but), .int (bI b), .int (nI s), w], [], h) = some (some (.int (bI Z)), h) := by
    intro n
    induction n with
    | zero =>
      intro s b w hs hbb
      have hs : s = 16 := by omega
      subst hs
      simp (disch := first | assumption | omega) only [e_X8_isInOrder_4, e_X8_isInOrder_5, e_X8_isInOrder_6, e_X8_isInOrder_63, e_X8_isInOrder_64, nI_leI, if_t, bI_rk, if_true, Nat.le_refl, hbb, hZ]
    | succ n ih =>
      intro s b w hs hbb
      have hbut : (nI s = oI but) = (some s = but) := by
        cases but with
        | none => simp [oI, nI_n4 (show s < 2 ^ 31 by omega)]
        | some i =>
          have := hb i rfl
          simp only [oI_some, Option.some.injEq, eq_iff_iff]
          exact nI_eq (by omega) (by omega)
      have i2 := fun w => ih (s + 1) (b && cnO l σ t y but s) w (by omega) (by rw [hbb]; rfl)
      rw [e_X8_isInOrder_4]
      unfold cnO at i2
      cases hx : σ s with
      | none =>
        have q1 := rs_none A R (show s < 16 by omega) hx
        rw [hx] at i2
        simp only [Bool.and_true] at i2
        simp (disch := first | assumption | omega) only [e_X8_isInOrder_5, e_X8_isInOrder_6, e_X8_isInOrder_7, e_X8_isInOrder_8, e_X8_isInOrder_9, e_X8_isInOrder_10, e_X8_isInOrder_11, e_X8_isInOrder_12, e_X8_isInOrder_13, e_X8_isInOrder_14, e_X8_isInOrder_15, e_X8_isInOrder_16, e_X8_isInOrder_17, e_X8_isInOrder_18, e_X8_isInOrder_19, e_X8_isInOrder_20, e_X8_isInOrder_21, e_X8_isInOrder_61, e_X8_isInOrder_62, nI_leI, if_f, M.f0, Option.bind_some, nI_add, q1, hbut, m4_lt0, if_true, i2, ite_self]
      | some z =>
        obtain ⟨x1, x2, q1, q2⟩ := rs_some A R (show s < 16 by omega) hx
        have q3 := mg_ld G K (show s < 16 by omega)
        rw [hx] at q3 i2
        have q3 : xld h (m + 4) 0 (nI s) = some (nI (mk l z)) := q3
        have rz := (l4 _ x1).1
        have vz := (l2 _ (rlN_mem x1)).1
        simp (disch := first | assumption | omega) only [e_X8_isInOrder_5, e_X8_isInOrder_6, e_X8_isInOrder_7, e_X8_isInOrder_8, e_X8_isInOrder_9, e_X8_isInOrder_10, e_X8_isInOrder_11, e_X8_isInOrder_12, e_X8_isInOrder_13, e_X8_isInOrder_14, e_X8_isInOrder_15, e_X8_isInOrder_16, e_X8_isInOrder_17, e_X8_isInOrder_18, e_X8_isInOrder_19, e_X8_isInOrder_20, e_X8_isInOrder_21, e_X8_isInOrder_22, e_X8_isInOrder_23, e_X8_isInOrder_24, e_X8_isInOrder_25, e_X8_isInOrder_26, e_X8_isInOrder_27, e_X8_isInOrder_28, e_X8_isInOrder_29, e_X8_isInOrder_30, e_X8_isInOrder_31, e_X8_isInOrder_61, e_X8_isInOrder_62, nI_leI, if_f, M.f0, M.f5, Option.bind_some, nI_add, q1, hbut, nI_lt0, nI_eq, q3, q_doMeet, xbk_i, bI_0]
        by_cases g1 : some s = but
        · simp only [g1, true_or, if_true, Bool.and_true] at i2 ⊢
          exact i2 _
        · by_cases g2 : s = t
          · simp only [g2, true_or, or_true, if_true, Bool.and_true] at i2 ⊢
            simp only [ite_self]
            exact i2 _
          · by_cases g3 : z.1 = y.1
            · simp only [g1, g2, g3, true_or, or_true, if_true, if_false, Bool.and_true] at i2 ⊢
              exact i2 _
            · cases g4 : mtX l y z with
              | false =>
                simp only [g1, g2, g3, g4, or_true, if_true, if_false, Bool.and_true] at i2 ⊢
                exact i2 _
              | true =>
                simp only [g1, g2, g3, g4, or_self, Bool.true_eq_false, if_false] at i2 ⊢
                simp (disch := first | assumption | omega) only [e_X8_isInOrder_32, e_X8_isInOrder_33, e_X8_isInOrder_34, e_X8_isInOrder_35, e_X8_isInOrder_36, e_X8_isInOrder_37, e_X8_isInOrder_38, e_X8_isInOrder_39, e_X8_isInOrder_40, e_X8_isInOrder_41, e_X8_isInOrder_42, e_X8_isInOrder_43, e_X8_isInOrder_44, e_X8_isInOrder_45, e_X8_isInOrder_46, e_X8_isInOrder_47, e_X8_isInOrder_48, e_X8_isInOrder_49, e_X8_isInOrder_50, e_X8_isInOrder_51, e_X8_isInOrder_52, e_X8_isInOrder_53, e_X8_isInOrder_54, e_X8_isInOrder_55, e_X8_isInOrder_56, e_X8_isInOrder_57, e_X8_isInOrder_58, e_X8_isInOrder_59, e_X8_isInOrder_60, bI_0, M.f0, Option.bind_some, nI_add, ra_ld A, ry, rz, nI_leI]
                have j2 := i2 (.int (nI z.1))
                unfold rkX at j2
                rw [← j2]
                cases b
                · simp only [if_true, e_X8_isInOrder_61, e_X8_isInOrder_62, nI_add, Bool.false_and]; rfl
                · by_cases a1 : (rlN l y.1).1 < (rlN l z.1).1 <;> by_cases a2 : t < s
                  · simp [a1, a2, Nat.not_le.mpr a1, Nat.not_le.mpr a2, e_X8_isInOrder_61, e_X8_isInOrder_62, nI_add, bI]
                  · simp [a1, a2, Nat.not_le.mpr a1, Nat.not_lt.mp a2, e_X8_isInOrder_61, e_X8_isInOrder_62, nI_add, bI, show ¬ nI 1 = nI 0 by decide]
                  · simp [a1, a2, Nat.not_lt.mp a1, Nat.not_le.mpr a2, e_X8_isInOrder_61, e_X8_isInOrder_62, nI_add, bI, show ¬ nI 0 = nI 1 by decide]
                  · simp [a1, a2, Nat.not_lt.mp a1, Nat.not_lt.mp a2, e_X8_isInOrder_61, e_X8_isInOrder_62, nI_add, bI]
  have e := key 16 0 true .null (by omega) rfl
  rw [hZ, itr_and] at e
  exact e
end Md2R
