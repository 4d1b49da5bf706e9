/-! THE MODEL: different rows -/
theorem itr_and2 {p : Nat → Bool} {b0 : Bool} : ∀ n, itr (fun k b => b && p k) b0 n = (b0 && itr (fun k b => b && p k) true n)
  | 0 => by show b0 = (b0 && true); rw [Bool.and_true]
  | n + 1 => by
    show (itr (fun k b => b && p k) b0 n && p n) = (b0 && (itr (fun k b => b && p k) true n && p n))
    rw [itr_and2 n, Bool.and_assoc]
theorem mk_inj {l : List Rl} {x y : Nat × Nat} : mk l x = mk l y ↔ (cX l y = cX l x ∧ vX l y = vX l x) := by
  have := cX_lt l x
  have := cX_lt l y
  unfold mk
  omega
section Md12R
variable {h : XH} {m : Nat} {cm ca lm ra nu nr mm nm : Int32} {f g : Nat → Int32} {l : List Rl} {σ : Sl} {d : Nat}
theorem q_differentM (M : MdO h m cm ca lm ra nu nr mm nm) (A : h[m + 1]? = some (ia 113 f)) (L : RwL f l) (R : RwS f l σ) (G : h[m + 4]? = some (ia 16 g)) (K : Msk g l σ) : xc XP d 177 [.ref m] h = some (some (.int (nI (ct (fun s => (σ s).isSome && !(fup (bloA l σ s) 0 s).isSome) 16))), h) := by
  have l1 := L.1
  rw [n_X8_differentRows]
  simp only [e_X8_differentRows_0, e_X8_differentRows_1, e_X8_differentRows_2, e_X8_differentRows_3]
  have inner : ∀ (a : Nat) (c : Int32), a < 16 → ∀ n b (e : Bool), b + n = a → e = itr (fun b x => x && !bloA l σ a b) (σ a).isSome b → xe XP d 177 (20, [.ref m, .int c, .int (nI a), .int (bI e), .int (nI b)], [], h) = xe XP d 177 (47, [.ref m, .int c, .int (nI a), .int (bI (itr (fun b x => x && !bloA l σ a b) (σ a).isSome a)), .int (nI a)], [], h) := by
    intro a c ha n
    induction n with
    | zero =>
      intro b e hb he
      have hb : b = a := by omega
      subst hb
      simp (disch := first | assumption | omega) only [e_X8_differentRows_20, e_X8_differentRows_21, e_X8_differentRows_22, nI_leI, if_t, Nat.le_refl, if_true, he]
    | succ n ih =>
      intro b e hb he
      have i2 := ih (b + 1) (e && !bloA l σ a b) (by omega) (by rw [he]; rfl)
      rw [e_X8_differentRows_20, ← i2]
      cases e with
      | false =>
        simp (disch := first | assumption | omega) only [e_X8_differentRows_21, e_X8_differentRows_22, e_X8_differentRows_23, e_X8_differentRows_24, e_X8_differentRows_43, e_X8_differentRows_44, e_X8_differentRows_45, e_X8_differentRows_46, nI_leI, if_f, bI_f, if_true, nI_add, Bool.false_and]
      | true =>
        cases hx : σ a with
        | none =>
          rw [hx, itr_and2] at he
          simp at he
        | some x =>
          have q3 := mg_ld G K ha
          rw [hx] at q3
          have q3 : xld h (m + 4) 0 (nI a) = some (nI (mk l x)) := q3
          have m1 := mk_lt l x
          unfold bloA
          rw [hx]
          cases hy : σ b with
          | none =>
            have p1 := rs_none A R (show b < 16 by omega) hy
            simp (disch := first | assumption | omega) only [e_X8_differentRows_21, e_X8_differentRows_22, e_X8_differentRows_23, e_X8_differentRows_24, e_X8_differentRows_25, e_X8_differentRows_26, e_X8_differentRows_27, e_X8_differentRows_28, e_X8_differentRows_29, e_X8_differentRows_30, e_X8_differentRows_31, e_X8_differentRows_41, e_X8_differentRows_42, e_X8_differentRows_43, e_X8_differentRows_44, e_X8_differentRows_45, e_X8_differentRows_46, nI_leI, if_f, bI_0, Bool.true_eq_false, if_false, M.f0, Option.bind_some, nI_add, p1, m4_lt0, if_true]
            rfl
          | some y =>
            obtain ⟨y1, y2, p1, p2⟩ := rs_some A R (show b < 16 by omega) hy
            have p3 := mg_ld G K (show b < 16 by omega)
            rw [hy] at p3
            have p3 : xld h (m + 4) 0 (nI b) = some (nI (mk l y)) := p3
            have m2 := mk_lt l y
            simp (disch := first | assumption | omega) only [e_X8_differentRows_21, e_X8_differentRows_22, e_X8_differentRows_23, e_X8_differentRows_24, e_X8_differentRows_25, e_X8_differentRows_26, e_X8_differentRows_27, e_X8_differentRows_28, e_X8_differentRows_29, e_X8_differentRows_30, e_X8_differentRows_31, e_X8_differentRows_32, e_X8_differentRows_33, e_X8_differentRows_34, e_X8_differentRows_35, e_X8_differentRows_36, e_X8_differentRows_37, e_X8_differentRows_38, e_X8_differentRows_39, e_X8_differentRows_40, e_X8_differentRows_41, e_X8_differentRows_42, e_X8_differentRows_43, e_X8_differentRows_44, e_X8_differentRows_45, e_X8_differentRows_46, nI_leI, if_f, bI_0, Bool.true_eq_false, if_false, M.f0, M.f5, Option.bind_some, nI_add, p1, nI_lt0, q3, p3, nI_eq, mk_inj]
            by_cases e1 : cX l y = cX l x <;> by_cases e2 : vX l y = vX l x <;> simp [e1, e2, bI]
  have outer : ∀ n a c (w3 w4 : Value), a + n = 16 → c = ct (fun s => (σ s).isSome && !(fup (bloA l σ s) 0 s).isSome) a → xe XP d 177 (4, [.ref m, .int (nI c), .int (nI a), w3, w4], [], h) = some (some (.int (nI (ct (fun s => (σ s).isSome && !(fup (bloA l σ s) 0 s).isSome) 16))), h) := by
    intro n
    induction n with
    | zero =>
      intro a c w3 w4 ha hc
      have ha : a = 16 := by omega
      subst ha
      simp (disch := first | assumption | omega) only [e_X8_differentRows_4, e_X8_differentRows_5, e_X8_differentRows_6, e_X8_differentRows_57, e_X8_differentRows_58, nI_leI, if_t, Nat.le_refl, if_true, hc]
    | succ n ih =>
      intro a c w3 w4 ha hc
      have hp : itr (fun b x => x && !bloA l σ a b) (σ a).isSome a = ((σ a).isSome && !(fup (bloA l σ a) 0 a).isSome) := by
        rw [itr_and2, itr_and]
        congr 1
        rw [show (fun k => !!bloA l σ a k) = bloA l σ a by funext k; rw [Bool.not_not]]
        cases fup (bloA l σ a) 0 a <;> rfl
      have i2 := fun w3 w4 => ih (a + 1) (c + (if ((σ a).isSome && !(fup (bloA l σ a) 0 a).isSome) = true then 1 else 0)) w3 w4 (by omega) (by rw [hc]; rfl)
      have j2 := inner a (nI c) (by omega) a 0 (σ a).isSome (by omega) rfl
      rw [hp] at j2
      have fin : xe XP d 177 (18, [.ref m, .int (nI c), .int (nI a), .int (bI (σ a).isSome), w4], [], h) = some (some (.int (nI (ct (fun s => (σ s).isSome && !(fup (bloA l σ s) 0 s).isSome) 16))), h) := by
        rw [← i2 (.int (bI ((σ a).isSome && !(fup (bloA l σ a) 0 a).isSome))) (.int (nI a))]
        simp only [e_X8_differentRows_18, e_X8_differentRows_19]
        rw [j2]
        simp (disch := first | assumption | omega) only [e_X8_differentRows_47, e_X8_differentRows_48, e_X8_differentRows_49, e_X8_differentRows_50, e_X8_differentRows_51, e_X8_differentRows_52, e_X8_differentRows_53, e_X8_differentRows_54, e_X8_differentRows_55, e_X8_differentRows_56, bI_0, nI_add]
        by_cases q : ((σ a).isSome && !(fup (bloA l σ a) 0 a).isSome) = true
        · simp only [q, if_true, Bool.true_eq_false, if_false]
        · have q' : ((σ a).isSome && !(fup (bloA l σ a) 0 a).isSome) = false := Bool.eq_false_iff.mpr q
          simp only [q', if_true, Bool.false_eq_true, if_false]
      rw [e_X8_differentRows_4, ← fin]
      cases hx : σ a with
      | none =>
        have q1 := rs_none A R (show a < 16 by omega) hx
        simp (disch := first | assumption | omega) only [e_X8_differentRows_5, e_X8_differentRows_6, e_X8_differentRows_7, e_X8_differentRows_8, e_X8_differentRows_9, e_X8_differentRows_10, e_X8_differentRows_11, e_X8_differentRows_12, e_X8_differentRows_13, e_X8_differentRows_14, e_X8_differentRows_15, e_X8_differentRows_16, e_X8_differentRows_17, nI_leI, if_f, M.f0, Option.bind_some, nI_add, q1, m4_lt0, if_true]
        rfl
      | some x =>
        obtain ⟨x1, x2, q1, q2⟩ := rs_some A R (show a < 16 by omega) hx
        simp (disch := first | assumption | omega) only [e_X8_differentRows_5, e_X8_differentRows_6, e_X8_differentRows_7, e_X8_differentRows_8, e_X8_differentRows_9, e_X8_differentRows_10, e_X8_differentRows_11, e_X8_differentRows_12, e_X8_differentRows_13, e_X8_differentRows_14, e_X8_differentRows_15, e_X8_differentRows_16, e_X8_differentRows_17, nI_leI, if_f, M.f0, Option.bind_some, nI_add, q1, nI_lt0]
        rfl
  exact outer 16 0 0 .null .null (by omega) rfl
end Md12R
