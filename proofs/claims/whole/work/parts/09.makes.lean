/-! OPERATIONS that make cells; the copy of a row -/
section XS5
variable {own : String} {cc : ByteArray} {nL : Nat} {ini : Prop} {rk : Int32 → Bool} {pcs : List Nat} {pc nx : Nat}
def o_new (ci : Nat) (fs : List Value) (nx : Nat) : XF := fun ls st h => some (.inl (nx, ls, .ref h.length :: st, h ++ [.inl (ci, fs)]))
theorem ok_new {ci idx N : Nat} {fs : List Value} {Cn : String} {T : u_T} (hd : decode cc pc = .ok (.new idx, 3)) (hc : vwCl[ci]? = some (Cn, T, N)) (h9 : ¬ ci = 9) (hin : ∀ w ∈ u_ws Cn T N, w ∈ XW) (ty : Nat → FieldType) (hty : ∀ k, k < N → parseFieldDescriptor (T k).2.2.1 = some (ty k)) (hl : fs.length = N) (hfs : ∀ j, j < N → defaultValue (ty j) = fs.getD j .null) (hfv : ∀ v ∈ fs, v = .null ∨ v = .int 0)
    (hw1 : Cond.classLink own idx Cn ∈ XW) (hw2 : Cond.instantiable Cn N ∈ XW) (hw3 : Cond.initialized Cn ∈ XW) (hp : pcs.getD nx 0 = pc + 3) : xOk own cc nL ini rk pcs pc (o_new ci fs nx) := by
  refine ⟨fun ls st h x hx => ?_, fun G p l e R s m args below meth c d n0 s0 nF sF Q C ls st h hn hs => ⟨fun i' ls' st' h' hx hnF hsF kk H locs a hP hS hL => ?_, fun v h' hx _ => ?_⟩⟩
  · cases hx
    exact ⟨by simp, by rw [xsl_push]; omega⟩
  · cases hx
    rw [hp] at kk
    have hts := C.2.2.2.2.1
    have hr := C.2.2.2.2.2.2.2
    have hKn := C.2.2.2.2.2.1.1.1 ci _ hc
    have hz : xsz (.inl (ci, fs)) = N := hl
    have hmv : fs.map (xv G) = fs := by
      rw [List.map_congr_left (g := id) (fun v hv => by rcases hfv v hv with rfl | rfl <;> rfl)]
      simp
    rw [xsl_push, hz] at hsF
    have hnF' : h.length + 1 ≤ nF := by simpa using hnF
    refine W.newcK C.1 C.2.1 C.2.2.2.1 (hts _ hw1) (hts _ hw2) (hts _ hw3) rfl hd (by omega) (by omega) hKn.2.1 rfl fun H1 kC hkC e1 z1 o1 => ?_
    have hP' : xP G (h ++ [.inl (ci, fs)]) H1 := hP.push (by
      unfold xcell
      dsimp only
      rw [if_neg h9]
      refine ⟨hP.1, _, hc, hl, ?_⟩
      rw [hP.next, hmv]
      exact (u_born ty hts hin hKn hkC e1 hty).to hfs) z1 o1
    have kk2 := kk H1 locs a hP' ⟨Nat.le_trans hS.1 (by omega), fun x h1 h2 => (o1 x (Nat.lt_of_lt_of_le h1 hS.1)).trans (hS.2.1 x h1 h2), hS.2.2⟩ hL
    rw [xsl_push, hz, List.length_append] at kk2
    have ea : h.length + [(Sum.inl (ci, fs) : XC)].length - n0 = h.length - n0 + 1 := by simp; omega
    have eb : xsl h + N - s0 = xsl h - s0 + N := by omega
    rw [ea, eb] at kk2
    have er : (xv G (.ref h.length)) = .ref H.size := by simp [xv, hP.next]
    rw [List.map_cons, er] at kk2
    exact kk2
  · cases hx
def o_newarr (ty nx : Nat) : XF := fun ls st h => match st with
  | .int n :: st' => if (decide (¬ n < 0) && decide (n.toNatClampNeg ≤ 1000)) = true then some (.inl (nx, ls, .ref h.length :: st', h ++ [.inr (.inl (ty, n.toNatClampNeg, fun _ => 0))])) else none
  | _ => none
theorem o_newarr_of {ty : Nat} {ls st : List Value} {h : XH} {x : XS ⊕ XR} (hx : o_newarr ty nx ls st h = some x) : ∃ n st', st = .int n :: st' ∧ ¬ n < 0 ∧ n.toNatClampNeg ≤ 1000 ∧ x = .inl (nx, ls, .ref h.length :: st', h ++ [.inr (.inl (ty, n.toNatClampNeg, fun _ => 0))]) := by
  unfold o_newarr at hx
  split at hx
  · next n st' =>
    split at hx
    · next hn =>
      simp only [Bool.and_eq_true, decide_eq_true_eq] at hn
      cases hx
      exact ⟨n, st', rfl, hn.1, hn.2, rfl⟩
    · cases hx
  · cases hx
theorem ok_newarr {at0 : ArrayType} {ty : Nat} {ft : FieldType} (hd : decode cc pc = .ok (.newarray at0, 2)) (hft : newarray.typeOf at0 = ft) (hty : (at0 = .int ∧ ty = 0) ∨ (at0 = .boolean ∧ ty = 1)) (hw : Cond.arrayClass ft ∈ XW) (hp : pcs.getD nx 0 = pc + 2) : xOk own cc nL ini rk pcs pc (o_newarr ty nx) := by
  refine ⟨fun ls st h x hx => ?_, fun G p l e R s m args below meth c d n0 s0 nF sF Q C ls st h hn hs => ⟨fun i' ls' st' h' hx hnF hsF kk H locs a hP hS hL => ?_, fun v h' hx _ => ?_⟩⟩
  · obtain ⟨n, st', rfl, -, -, rfl⟩ := o_newarr_of hx
    exact ⟨by simp, by rw [xsl_push]; omega⟩
  · obtain ⟨n, st2, rfl, hn0, hn1, e1⟩ := o_newarr_of hx
    cases e1
    rw [hp] at kk
    have hts := C.2.2.2.2.1
    have hr := C.2.2.2.2.2.2.2
    have hz : xsz (.inr (.inl (ty, n.toNatClampNeg, fun _ => 0))) = n.toNatClampNeg := rfl
    rw [xsl_push, hz] at hsF
    have hnF' : h.length + 1 ≤ nF := by simpa using hnF
    subst hft
    have hcb : n.toNatClampNeg * componentBytes (newarray.typeOf at0) ≤ 536870912 := by
      have : componentBytes (newarray.typeOf at0) ≤ 4 := by rcases hty with ⟨rfl, -⟩ | ⟨rfl, -⟩ <;> decide
      have := Nat.mul_le_mul hn1 this
      omega
    refine va_newaK C.1 C.2.1 (hts _ hw) rfl hd rfl hn0 rfl hcb (by omega) (by omega) rfl fun H1 cA e1 z1 o1 hAr hNm => ?_
    have hP' : xP G (h ++ [.inr (.inl (ty, n.toNatClampNeg, fun _ => 0))]) H1 := hP.push (by
      unfold xcell
      dsimp only
      rw [if_neg (by omega), if_neg (by omega)]
      refine ⟨hP.1, ?_⟩
      rw [hP.next, e1]
      rcases hty with ⟨rfl, rfl⟩ | ⟨rfl, rfl⟩
      · have hk := (C.2.2.2.2.2.1.1.2 0 _ rfl).2
        have : cA = gA G 0 := Option.some.inj (hNm.symm.trans hk)
        rw [this]; rfl
      · have hk := (C.2.2.2.2.2.1.1.2 1 _ rfl).2
        have : cA = gA G 1 := Option.some.inj (hNm.symm.trans hk)
        rw [this]; rfl) z1 o1
    have kk2 := kk H1 locs a hP' ⟨Nat.le_trans hS.1 (by omega), fun x h1 h2 => (o1 x (Nat.lt_of_lt_of_le h1 hS.1)).trans (hS.2.1 x h1 h2), hS.2.2⟩ hL
    rw [xsl_push, hz, List.length_append] at kk2
    have ea : h.length + [(Sum.inr (Sum.inl (ty, n.toNatClampNeg, fun _ => 0)) : XC)].length - n0 = h.length - n0 + 1 := by simp; omega
    have eb : xsl h + n.toNatClampNeg - s0 = xsl h - s0 + n.toNatClampNeg := by omega
    rw [ea, eb] at kk2
    have er : (xv G (.ref h.length)) = .ref H.size := by simp [xv, hP.next]
    rw [List.map_cons, er] at kk2
    exact kk2
  · obtain ⟨n, st2, -, -, -, e1⟩ := o_newarr_of hx
    cases e1
def o_anew (nx : Nat) : XF := fun ls st h => match st with
  | .int n :: st' => if (decide (¬ n < 0) && decide (n.toNatClampNeg ≤ 1000)) = true then some (.inl (nx, ls, .ref h.length :: st', h ++ [.inr (.inr (List.replicate n.toNatClampNeg .null))])) else none
  | _ => none
theorem o_anew_of {ls st : List Value} {h : XH} {x : XS ⊕ XR} (hx : o_anew nx ls st h = some x) : ∃ n st', st = .int n :: st' ∧ ¬ n < 0 ∧ n.toNatClampNeg ≤ 1000 ∧ x = .inl (nx, ls, .ref h.length :: st', h ++ [.inr (.inr (List.replicate n.toNatClampNeg .null))]) := by
  unfold o_anew at hx
  split at hx
  · next n st' =>
    split at hx
    · next hn =>
      simp only [Bool.and_eq_true, decide_eq_true_eq] at hn
      cases hx
      exact ⟨n, st', rfl, hn.1, hn.2, rfl⟩
    · cases hx
  · cases hx
theorem ok_anew {idx : Nat} (hd : decode cc pc = .ok (.anewarray idx, 3)) (hw : Cond.classLink own idx RX0 ∈ XW) (hp : pcs.getD nx 0 = pc + 3) : xOk own cc nL ini rk pcs pc (o_anew nx) := by
  refine ⟨fun ls st h x hx => ?_, fun G p l e R s m args below meth c d n0 s0 nF sF Q C ls st h hn hs => ⟨fun i' ls' st' h' hx hnF hsF kk H locs a hP hS hL => ?_, fun v h' hx _ => ?_⟩⟩
  · obtain ⟨n, st', rfl, -, -, rfl⟩ := o_anew_of hx
    exact ⟨by simp, by rw [xsl_push]; omega⟩
  · obtain ⟨n, st2, rfl, hn0, hn1, e1⟩ := o_anew_of hx
    cases e1
    rw [hp] at kk
    have hts := C.2.2.2.2.1
    have hr := C.2.2.2.2.2.2.2
    have hz : xsz (.inr (.inr (List.replicate n.toNatClampNeg Value.null))) = n.toNatClampNeg := by simp [xsz]
    rw [xsl_push, hz] at hsF
    have hnF' : h.length + 1 ≤ nF := by simpa using hnF
    obtain ⟨-, k2, -⟩ := C.2.2.2.2.2.1
    refine W.anew C.1 C.2.1 C.2.2.2.1 (hts _ hw) (va_AO.use k2) rfl hd rfl hn0 (by omega) (by omega) (by omega) fun cA kA comp f1 f2 f3 f4 => ?_
    generalize hH1 : H.push ({ cls := cA, slots := Array.replicate n.toNatClampNeg .null, vm := .none } : Cell) = H1
    have z1 : H1.size = H.size + 1 := by rw [← hH1, Array.size_push]
    have e1 : H1[H.size]? = some (arrV cA n.toNatClampNeg (fun _ => .null)) := by rw [← hH1, Array.getElem?_push_size, ← arrV_new]
    have o1 : ∀ q : Nat, q < H.size → H1[q]? = H[q]? := fun q hq => by rw [← hH1, Array.getElem?_push, if_neg (Nat.ne_of_lt hq)]
    have hP' : xP G (h ++ [.inr (.inr (List.replicate n.toNatClampNeg .null))]) H1 := hP.push (by
      unfold xcell
      dsimp only
      refine ⟨hP.1, ?_⟩
      rw [hP.next, e1]
      obtain ⟨kB, compB, b1, b2, b3, b4⟩ := (C.2.2.2.2.2.1.1.2 2 _ rfl).2
      have : cA = gA G 2 := Option.some.inj (f1.symm.trans b4)
      rw [this, List.length_replicate]
      congr 2
      funext j
      rw [List.getD_eq_getElem?_getD, List.getElem?_replicate]
      split <;> rfl) z1 o1
    have kk2 := kk H1 locs a hP' ⟨Nat.le_trans hS.1 (by omega), fun x h1 h2 => (o1 x (Nat.lt_of_lt_of_le h1 hS.1)).trans (hS.2.1 x h1 h2), hS.2.2⟩ hL
    rw [xsl_push, hz, List.length_append] at kk2
    have ea : h.length + [(Sum.inr (Sum.inr (List.replicate n.toNatClampNeg Value.null)) : XC)].length - n0 = h.length - n0 + 1 := by simp; omega
    have eb : xsl h + n.toNatClampNeg - s0 = xsl h - s0 + n.toNatClampNeg := by omega
    rw [ea, eb] at kk2
    have er : (xv G (.ref h.length)) = .ref H.size := by simp [xv, hP.next]
    rw [List.map_cons, er] at kk2
    exact kk2
  · obtain ⟨n, st2, -, -, -, e1⟩ := o_anew_of hx
    cases e1
def o_copy (nx : Nat) : XF := fun ls st h => match st with
  | .int n :: .int dp :: .ref b :: .int sp :: .ref a :: st' => (match xar h a 0, xar h b 0 with
    | some (n0, f), some (n1, g) => if (decide (¬ sp < 0) && (decide (¬ dp < 0) && (decide (¬ n < 0) && (decide (sp.toNatClampNeg + n.toNatClampNeg ≤ n0) && (decide (dp.toNatClampNeg + n.toNatClampNeg ≤ n1) && decide (st'.length ≤ 8)))))) = true then some (.inl (nx, ls, st', h.set b (.inr (.inl (0, n1, va_cpy f g sp.toNatClampNeg dp.toNatClampNeg n.toNatClampNeg))))) else none
    | _, _ => none)
  | _ => none
theorem o_copy_of {ls st : List Value} {h : XH} {x : XS ⊕ XR} (hx : o_copy nx ls st h = some x) : ∃ n dp b sp a st' n0 f n1 g, st = .int n :: .int dp :: .ref b :: .int sp :: .ref a :: st' ∧ h[a]? = some (.inr (.inl (0, n0, f))) ∧ h[b]? = some (.inr (.inl (0, n1, g))) ∧ ¬ sp < 0 ∧ ¬ dp < 0 ∧ ¬ n < 0 ∧ sp.toNatClampNeg + n.toNatClampNeg ≤ n0 ∧ dp.toNatClampNeg + n.toNatClampNeg ≤ n1 ∧ st'.length ≤ 8 ∧ x = .inl (nx, ls, st', h.set b (.inr (.inl (0, n1, va_cpy f g sp.toNatClampNeg dp.toNatClampNeg n.toNatClampNeg)))) := by
  unfold o_copy at hx
  split at hx
  · next n dp b sp a st' =>
    split at hx
    · next n0 f n1 g h1 h2 =>
      split at hx
      · next q =>
        simp only [Bool.and_eq_true, decide_eq_true_eq] at q
        cases hx
        exact ⟨n, dp, b, sp, a, st', n0, f, n1, g, rfl, xar_of h1, xar_of h2, q.1, q.2.1, q.2.2.1, q.2.2.2.1, q.2.2.2.2.1, q.2.2.2.2.2, rfl⟩
      · cases hx
    · cases hx
  · cases hx
theorem ok_copy {idx : Nat} (hd : decode cc pc = .ok (.invokestatic idx, 3)) (hw1 : Cond.methodLink own idx arraycopyName ∈ XW) (hw2 : Cond.native arraycopyName ∈ XW) (hw3 : Cond.static arraycopyName ∈ XW) (hw4 : Cond.initialized "java/lang/System" ∈ XW) (hp : pcs.getD nx 0 = pc + 3) : xOk own cc nL ini rk pcs pc (o_copy nx) := by
  refine ⟨fun ls st h x hx => ?_, fun G p l e R s m args below meth c d n0 s0 nF sF Q C ls st h hn hs => ⟨fun i' ls' st' h' hx _ _ kk H locs a hP hS hL => ?_, fun v h' hx _ => ?_⟩⟩
  · obtain ⟨n, dp, b, sp, a, st', m0, f, m1, g, rfl, h1, h2, -, -, -, -, -, -, rfl⟩ := o_copy_of hx
    refine ⟨by simp, ?_⟩
    rw [xsl_set h2 (by simp [xsz])]
    exact Nat.le_refl _
  · obtain ⟨n, dp, b, sp, a0, st2, m0, f, m1, g, rfl, g1, g2, h1, h2, h3, h4, h5, h8, e1⟩ := o_copy_of hx
    cases e1
    rw [hp] at kk
    have hts := C.2.2.2.2.1
    have hr := C.2.2.2.2.2.2.2
    have hF := C.2.2.2.2.2.1.2.2.2.2.2.2.2.2.2.2.2.1
    obtain ⟨ha3, hc0⟩ := xcell_arr (hP.2.2 a0 _ g1) (by decide) (by decide)
    obtain ⟨hb3, hc1⟩ := xcell_arr (hP.2.2 b _ g2) (by decide) (by decide)
    have nn : ∀ z : Int32, ¬ z < 0 → z.toInt = (z.toNatClampNeg : Int) := by
      intro z hz
      have hz0 : (0 : Int) ≤ z.toInt := by
        have := Int32.not_lt.mp hz
        simpa using Int32.le_iff_toInt_le.mp this
      show z.toInt = ((z.toInt.toNat : Nat) : Int)
      omega
    have hAr := (C.2.2.2.2.2.1.1.2 0 _ rfl).1
    obtain ⟨-, k0, hk0, cm0, hkk0⟩ := hAr m0 (fun j => .int (f j))
    obtain ⟨-, k1, hk1, cm1, hkk1⟩ := hAr m1 (fun j => .int (g j))
    intro T hT X
    obtain ⟨vm', X', step⟩ := X.arraycopy C.1 C.2.2.2.1 (hts _ hw1) (hts _ hw2) (hts _ hw3) (hts _ hw4) (src := xad G a0) (dst := xad G b) (cs := arrV (gA G 0) m0 (fun j => .int (f j))) (cd := arrV (gA G 0) m1 (fun j => .int (g j))) (srcPos := sp) (destPos := dp) (n := n) (by rw [hT]; exact hc0) (by rw [hT]; exact hc1)
      (fun _ h => by cases h) (fun _ h => by cases h) (fun h => by cases h) (fun h => by cases h) hk0 hk1 hkk0 hkk1 (by simp [refKind]) h1 h2 h3
      (by rw [nn sp h1, nn n h3, arrV_size]; omega)
      (by rw [nn dp h2, nn n h3, arrV_size]; omega)
      (fun vm₁ _ i hi => by
        have e : (arrV (gA G 0) m0 (fun j => .int (f j))).slots.getD (sp.toNatClampNeg + i) .null = .int (f (sp.toNatClampNeg + i)) := by
          rw [Array.getD_eq_getD_getElem?, arrV_read _ _ (by omega)]
          rfl
        refine ⟨?_, ?_⟩
        · rw [e]
          rfl
        · rw [e]
          exact trivial)
      (g := F0 m pc a (.int n :: .int dp :: .ref (xad G b) :: .int sp :: .ref (xad G a0) :: st'.map (xv G))) rfl (by show Array.size a = _; rw [C.2.2.1]; exact hL.2.1) (rest := st'.map (xv G)) rfl (by rw [C.2.1]; exact hd) (by omega)
      (by
        show 2 * 0 + ((st'.map (xv G)).map fun v => v.category).sum + (nativeFrameWords "java/lang/System" "arraycopy" 5 + 11) ≤ R.locals
        have hnw : nativeFrameWords "java/lang/System" "arraycopy" 5 = 7 := by decide +kernel
        rw [xv_cats G hF, hnw]
        omega)
    have e1 : copied (arrV (gA G 0) m0 (fun j => .int (f j))) (arrV (gA G 0) m1 (fun j => .int (g j))) sp dp n = arrV (gA G 0) m1 (fun j => .int (va_cpy f g sp.toNatClampNeg dp.toNatClampNeg n.toNatClampNeg j)) := va_copied (fun z => .int z) (gA G 0) (gA G 0) f g h4
    rw [e1] at X' step
    have hl : xad G b < H.size := (Array.getElem?_eq_some_iff.mp hc1).1
    generalize hcx : arrV (gA G 0) m1 (fun j => Value.int (va_cpy f g sp.toNatClampNeg dp.toNatClampNeg n.toNatClampNeg j)) = cx at X' step
    have hheap : ((T.setVm vm').setCell (xad G b) cx).heap = H.setIfInBounds (xad G b) cx := by rw [← hT]; rfl
    have oq : ∀ q : Nat, q ≠ xad G b → (H.setIfInBounds (xad G b) cx)[q]? = H[q]? := fun q hq => by simp [Array.getElem?_setIfInBounds, Ne.symm hq]
    have hP' : xP G (h.set b (.inr (.inl (0, m1, va_cpy f g sp.toNatClampNeg dp.toNatClampNeg n.toNatClampNeg)))) (H.setIfInBounds (xad G b) cx) := hP.set hb3 (List.getElem?_eq_some_iff.mp g2).1 (by
      unfold xcell
      dsimp only
      rw [if_neg (by decide), if_neg (by decide), hcx]
      exact ⟨hb3, by simp [Array.getElem?_setIfInBounds, hl]⟩) (by simp) oq
    have hS' : va_S (xA G) s.heap (H.setIfInBounds (xad G b) cx) (locs ++ List.map (fun (q : Value × Nat) => (⟨xad G b, dp.toNatClampNeg + q.2⟩ : Loc)) ((arrV (gA G 0) m0 (fun j => Value.int (f j))).stretch sp.toNatClampNeg n.toNatClampNeg).zipIdx) := ⟨by simp; exact hS.1, fun q g3 g4 => by
        rw [oq q (fun e => g4 (by rw [e]; exact xad_A hb3))]
        exact hS.2.1 q g3 g4, fun q hq => by
        rcases List.mem_append.mp hq with h | h
        · exact hS.2.2 q h
        · obtain ⟨z, -, hz⟩ := List.mem_map.mp h
          rw [← hz]
          exact xad_A hb3⟩
    have kk2 := kk _ _ a hP' hS' hL
    rw [List.length_set, xsl_set g2 (by simp [xsz])] at kk2
    obtain ⟨t, a1, b1⟩ := kk2 _ hheap X'
    exact ⟨t, step t a1, b1⟩
  · obtain ⟨n, dp, b, sp, a, st2, m0, f, m1, g, -, -, -, -, -, -, -, -, -, e1⟩ := o_copy_of hx
    cases e1
end XS5
