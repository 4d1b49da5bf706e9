/-! OPERATIONS on arrays; what makes cells -/
section XS4
variable {own : String} {cc : ByteArray} {nL : Nat} {ini : Prop} {rk : Int32 → Bool} {pcs : List Nat} {pc nx : Nat}
/-- what an array of numbers holds -/
def xar (h : XH) (t ty : Nat) : Option (Nat × (Nat → Int32)) := match h[t]? with
  | some (.inr (.inl (ty', n, f))) => if ty' = ty then some (n, f) else none
  | _ => none
theorem xar_of {h : XH} {t ty n : Nat} {f : Nat → Int32} (hx : xar h t ty = some (n, f)) : h[t]? = some (.inr (.inl (ty, n, f))) := by
  unfold xar at hx
  split at hx
  · next ty' n' f' hc =>
    split at hx
    · next e => subst e; cases hx; exact hc
    · cases hx
  · cases hx
def o_ald (ty nx : Nat) : XF := fun ls st h => match st with
  | .int i :: .ref t :: st' => (match xar h t ty with
    | some (n, f) => if xin i n = true then some (.inl (nx, ls, .int (f i.toNatClampNeg) :: st', h)) else none
    | none => none)
  | _ => none
theorem o_ald_of {ty : Nat} {ls st : List Value} {h : XH} {x : XS ⊕ XR} (hx : o_ald ty nx ls st h = some x) : ∃ i t st' n f, st = .int i :: .ref t :: st' ∧ h[t]? = some (.inr (.inl (ty, n, f))) ∧ xin i n = true ∧ x = .inl (nx, ls, .int (f i.toNatClampNeg) :: st', h) := by
  unfold o_ald at hx
  split at hx
  · next i t st' =>
    split at hx
    · next n f hf =>
      split at hx
      · next hi => cases hx; exact ⟨i, t, st', n, f, rfl, xar_of hf, hi, rfl⟩
      · cases hx
    · cases hx
  · cases hx
theorem xcell_arr {G : XG} {i ty n : Nat} {f : Nat → Int32} {H : Heap} (h : xcell G i (.inr (.inl (ty, n, f))) H) (h3 : ¬ ty = 3) (h4 : ¬ ty = 4) : 3 ≤ i ∧ H[xad G i]? = some (arrV (gA G ty) n (fun j => .int (f j))) := by
  unfold xcell at h
  dsimp only at h
  rw [if_neg h3, if_neg h4] at h
  exact h
theorem ok_iald (hd : decode cc pc = .ok (.iaload, 1)) (hp : pcs.getD nx 0 = pc + 1) : xOk own cc nL ini rk pcs pc (o_ald 0 nx) := by
  refine xok_pure (fun ls st h x hx => ?_)
  obtain ⟨i, t, st', n, f, rfl, h1, hi, rfl⟩ := o_ald_of hx
  refine ⟨_, _, _, rfl, fun G p l e R s m args below meth c d n0 s0 nF sF Q C kk H locs a hP hS hL => ?_⟩
  rw [hp] at kk
  obtain ⟨-, hc⟩ := xcell_arr (hP.2.2 t _ h1) (by decide) (by decide)
  have hin := xin_vp hi
  have hlt : i.toNatClampNeg < n := Nat.not_le.mp fun q => hin (Or.inr q)
  exact W.iald (v := .int (f i.toNatClampNeg)) C.1 C.2.1 hc ((C.2.2.2.2.2.1.1.2 0 _ rfl).1 n (fun j => .int (f j))) (fun q => by cases q) (by rw [arrV_size]; exact hin) (by rw [arrV_read _ _ hlt]) rfl rfl hd (kk H locs a hP hS hL)
theorem ok_zald (hd : decode cc pc = .ok (.baload, 1)) (hp : pcs.getD nx 0 = pc + 1) : xOk own cc nL ini rk pcs pc (o_ald 1 nx) := by
  refine xok_pure (fun ls st h x hx => ?_)
  obtain ⟨i, t, st', n, f, rfl, h1, hi, rfl⟩ := o_ald_of hx
  refine ⟨_, _, _, rfl, fun G p l e R s m args below meth c d n0 s0 nF sF Q C kk H locs a hP hS hL => ?_⟩
  rw [hp] at kk
  obtain ⟨-, hc⟩ := xcell_arr (hP.2.2 t _ h1) (by decide) (by decide)
  have hin := xin_vp hi
  have hlt : i.toNatClampNeg < n := Nat.not_le.mp fun q => hin (Or.inr q)
  exact W.zald (v := .int (f i.toNatClampNeg)) C.1 C.2.1 hc ((C.2.2.2.2.2.1.1.2 1 _ rfl).1 n (fun j => .int (f j))) (fun q => by cases q) (by rw [arrV_size]; exact hin) (by rw [arrV_read _ _ hlt]) rfl rfl hd (kk H locs a hP hS hL)
/-- the script -/
theorem ok_sald (hd : decode cc pc = .ok (.iaload, 1)) (hp : pcs.getD nx 0 = pc + 1) : xOk own cc nL ini rk pcs pc (o_ald 3 nx) := by
  refine xok_pure (fun ls st h x hx => ?_)
  obtain ⟨i, t, st', n, f, rfl, h1, hi, rfl⟩ := o_ald_of hx
  refine ⟨_, _, _, rfl, fun G p l e R s m args below meth c d n0 s0 nF sF Q C kk H locs a hP hS hL => ?_⟩
  rw [hp] at kk
  have hc := hP.2.2 t _ h1
  unfold xcell at hc
  dsimp only at hc
  rw [if_pos rfl] at hc
  obtain ⟨rfl, rfl, rfl⟩ := hc
  obtain ⟨-, -, -, -, k5, -⟩ := C.2.2.2.2.2.1
  exact va_ti C.1 C.2.1 k5 hS (xin_vp hi) rfl hd (kk H locs a hP hS hL)
/-- the text's bytes -/
theorem ok_bald (hd : decode cc pc = .ok (.baload, 1)) (hp : pcs.getD nx 0 = pc + 1) : xOk own cc nL ini rk pcs pc (o_ald 4 nx) := by
  refine xok_pure (fun ls st h x hx => ?_)
  obtain ⟨i, t, st', n, f, rfl, h1, hi, rfl⟩ := o_ald_of hx
  refine ⟨_, _, _, rfl, fun G p l e R s m args below meth c d n0 s0 nF sF Q C kk H locs a hP hS hL => ?_⟩
  rw [hp] at kk
  have hc := hP.2.2 t _ h1
  unfold xcell at hc
  dsimp only at hc
  rw [if_neg (by decide), if_pos rfl] at hc
  obtain ⟨rfl, rfl, rfl⟩ := hc
  obtain ⟨-, -, -, -, -, -, -, -, k9, -⟩ := C.2.2.2.2.2.1
  exact va_tb C.1 C.2.1 k9 hS (xin_vp hi) rfl hd (kk H locs a hP hS hL)
def o_len (ty nx : Nat) : XF := fun ls st h => match st with
  | .ref t :: st' => (match xar h t ty with
    | some (n, _) => some (.inl (nx, ls, .int (nI n) :: st', h))
    | none => none)
  | _ => none
theorem o_len_of {ty : Nat} {ls st : List Value} {h : XH} {x : XS ⊕ XR} (hx : o_len ty nx ls st h = some x) : ∃ t st' n f, st = .ref t :: st' ∧ h[t]? = some (.inr (.inl (ty, n, f))) ∧ x = .inl (nx, ls, .int (nI n) :: st', h) := by
  unfold o_len at hx
  split at hx
  · next t st' =>
    split at hx
    · next n f hf => cases hx; exact ⟨t, st', n, f, rfl, xar_of hf, rfl⟩
    · cases hx
  · cases hx
theorem ok_len (hd : decode cc pc = .ok (.arraylength, 1)) (hp : pcs.getD nx 0 = pc + 1) : xOk own cc nL ini rk pcs pc (o_len 0 nx) := by
  refine xok_pure (fun ls st h x hx => ?_)
  obtain ⟨t, st', n, f, rfl, h1, rfl⟩ := o_len_of hx
  refine ⟨_, _, _, rfl, fun G p l e R s m args below meth c d n0 s0 nF sF Q C kk H locs a hP hS hL => ?_⟩
  rw [hp] at kk
  obtain ⟨-, hc⟩ := xcell_arr (hP.2.2 t _ h1) (by decide) (by decide)
  exact W.alen (n := nI n) C.1 C.2.1 hc ((C.2.2.2.2.2.1.1.2 0 _ rfl).1 n (fun j => .int (f j))) (by rw [arrV_size]; rfl) rfl rfl hd (kk H locs a hP hS hL)
theorem ok_slen (hd : decode cc pc = .ok (.arraylength, 1)) (hp : pcs.getD nx 0 = pc + 1) : xOk own cc nL ini rk pcs pc (o_len 3 nx) := by
  refine xok_pure (fun ls st h x hx => ?_)
  obtain ⟨t, st', n, f, rfl, h1, rfl⟩ := o_len_of hx
  refine ⟨_, _, _, rfl, fun G p l e R s m args below meth c d n0 s0 nF sF Q C kk H locs a hP hS hL => ?_⟩
  rw [hp] at kk
  have hc := hP.2.2 t _ h1
  unfold xcell at hc
  dsimp only at hc
  rw [if_pos rfl] at hc
  obtain ⟨rfl, rfl, rfl⟩ := hc
  obtain ⟨-, -, -, -, ⟨cell, c1, c2, c3, c4, c5, c6, c7⟩, -⟩ := C.2.2.2.2.2.1
  exact W.alen (n := nI (gL G)) C.1 C.2.1 (by show H[gb G]? = _; rw [hS.2.1 _ (Array.getElem?_eq_some_iff.mp c1).1 c7]; exact c1) c2 c5 rfl rfl hd (kk H locs a hP hS hL)
theorem ok_blen (hd : decode cc pc = .ok (.arraylength, 1)) (hp : pcs.getD nx 0 = pc + 1) : xOk own cc nL ini rk pcs pc (o_len 4 nx) := by
  refine xok_pure (fun ls st h x hx => ?_)
  obtain ⟨t, st', n, f, rfl, h1, rfl⟩ := o_len_of hx
  refine ⟨_, _, _, rfl, fun G p l e R s m args below meth c d n0 s0 nF sF Q C kk H locs a hP hS hL => ?_⟩
  rw [hp] at kk
  have hc := hP.2.2 t _ h1
  unfold xcell at hc
  dsimp only at hc
  rw [if_neg (by decide), if_pos rfl] at hc
  obtain ⟨rfl, rfl, rfl⟩ := hc
  obtain ⟨-, -, -, -, -, -, -, -, ⟨cell, c1, c2, c3, c4, c5, c6, c7⟩, -⟩ := C.2.2.2.2.2.1
  exact W.alen (n := nI 53) C.1 C.2.1 (by show H[gV G]? = _; rw [hS.2.1 _ (Array.getElem?_eq_some_iff.mp c1).1 c7]; exact c1) c2 c5 rfl rfl hd (kk H locs a hP hS hL)
def o_ast (ty nx : Nat) : XF := fun ls st h => match st with
  | .int x :: .int i :: .ref t :: st' => (match xar h t ty with
    | some (n, f) => if (xin i n && (decide (ty = 0) || (x == 0 || x == 1))) = true then some (.inl (nx, ls, st', h.set t (.inr (.inl (ty, n, upd f i.toNatClampNeg x))))) else none
    | none => none)
  | _ => none
theorem o_ast_of {ty : Nat} {ls st : List Value} {h : XH} {x : XS ⊕ XR} (hx : o_ast ty nx ls st h = some x) : ∃ z i t st' n f, st = .int z :: .int i :: .ref t :: st' ∧ h[t]? = some (.inr (.inl (ty, n, f))) ∧ xin i n = true ∧ (ty = 0 ∨ z = 0 ∨ z = 1) ∧ x = .inl (nx, ls, st', h.set t (.inr (.inl (ty, n, upd f i.toNatClampNeg z)))) := by
  unfold o_ast at hx
  split at hx
  · next z i t st' =>
    split at hx
    · next n f hf =>
      split at hx
      · next hi =>
        simp only [Bool.and_eq_true, Bool.or_eq_true, decide_eq_true_eq, beq_iff_eq] at hi
        cases hx
        exact ⟨z, i, t, st', n, f, rfl, xar_of hf, hi.1, hi.2, rfl⟩
      · cases hx
    · cases hx
  · cases hx
theorem xgr_ast {ty : Nat} : xGr (o_ast ty nx) := by
  intro ls st h x hx
  obtain ⟨z, i, t, st', n, f, rfl, h1, -, -, rfl⟩ := o_ast_of hx
  refine ⟨by simp, ?_⟩
  rw [xsl_set h1 (by simp [xsz])]
  exact Nat.le_refl _
theorem ok_iast (hd : decode cc pc = .ok (.iastore, 1)) (hp : pcs.getD nx 0 = pc + 1) : xOk own cc nL ini rk pcs pc (o_ast 0 nx) := by
  refine ⟨xgr_ast, fun G p l e R s m args below meth c d n0 s0 nF sF Q C ls st h hn hs => ⟨fun i' ls' st' h' hx _ _ kk H locs a hP hS hL => ?_, fun v h' hx _ => ?_⟩⟩
  · obtain ⟨z, i, t, st2, n, f, rfl, h1, hi, -, e1⟩ := o_ast_of hx
    cases e1
    rw [hp] at kk
    obtain ⟨ht3, hc⟩ := xcell_arr (hP.2.2 t _ h1) (by decide) (by decide)
    refine W.iast C.1 C.2.1 hc ((C.2.2.2.2.2.1.1.2 0 _ rfl).1 n (fun j => .int (f j))) (fun q => by cases q) (by rw [arrV_size]; exact xin_vp hi) rfl rfl hd fun H1 e z1 oq => ?_
    have hP' : xP G (h.set t (.inr (.inl (0, n, upd f i.toNatClampNeg z)))) H1 := hP.set ht3 (List.getElem?_eq_some_iff.mp h1).1 (by
      unfold xcell
      dsimp only
      rw [if_neg (by decide), if_neg (by decide)]
      refine ⟨ht3, ?_⟩
      rw [e, arrV_store]
      congr 2
      funext q
      by_cases hq : q = i.toNatClampNeg
      · subst hq
        simp [updV, upd]
      · simp [updV, upd, hq]) z1 oq
    have kk2 := kk H1 (locs ++ [⟨xad G t, i.toNatClampNeg⟩]) a hP' (hS.put z1 oq (xad_A ht3)) hL
    rw [List.length_set, xsl_set h1 (by simp [xsz])] at kk2
    exact kk2
  · obtain ⟨z, i, t, st2, n, f, -, -, -, -, e1⟩ := o_ast_of hx
    cases e1
theorem ok_zast (hd : decode cc pc = .ok (.bastore, 1)) (hp : pcs.getD nx 0 = pc + 1) : xOk own cc nL ini rk pcs pc (o_ast 1 nx) := by
  refine ⟨xgr_ast, fun G p l e R s m args below meth c d n0 s0 nF sF Q C ls st h hn hs => ⟨fun i' ls' st' h' hx _ _ kk H locs a hP hS hL => ?_, fun v h' hx _ => ?_⟩⟩
  · obtain ⟨z, i, t, st2, n, f, rfl, h1, hi, hz, e1⟩ := o_ast_of hx
    cases e1
    rw [hp] at kk
    obtain ⟨ht3, hc⟩ := xcell_arr (hP.2.2 t _ h1) (by decide) (by decide)
    have hnz : narrow .boolean (.int z) = .int z := by
      rcases hz with h0 | rfl | rfl
      · exact absurd h0 (by decide)
      · rfl
      · rfl
    refine W.zast C.1 C.2.1 hc ((C.2.2.2.2.2.1.1.2 1 _ rfl).1 n (fun j => .int (f j))) (fun q => by cases q) (by rw [arrV_size]; exact xin_vp hi) rfl rfl hd fun H1 e z1 oq => ?_
    have hP' : xP G (h.set t (.inr (.inl (1, n, upd f i.toNatClampNeg z)))) H1 := hP.set ht3 (List.getElem?_eq_some_iff.mp h1).1 (by
      unfold xcell
      dsimp only
      rw [if_neg (by decide), if_neg (by decide)]
      refine ⟨ht3, ?_⟩
      rw [e, arrV_store, hnz]
      congr 2
      funext q
      by_cases hq : q = i.toNatClampNeg
      · subst hq
        simp [updV, upd]
      · simp [updV, upd, hq]) z1 oq
    have kk2 := kk H1 (locs ++ [⟨xad G t, i.toNatClampNeg⟩]) a hP' (hS.put z1 oq (xad_A ht3)) hL
    rw [List.length_set, xsl_set h1 (by simp [xsz])] at kk2
    exact kk2
  · obtain ⟨z, i, t, st2, n, f, -, -, -, -, e1⟩ := o_ast_of hx
    cases e1
/-- the row of boards -/
def xbs (h : XH) (t : Nat) : Option (List Value) := match h[t]? with
  | some (.inr (.inr vs)) => some vs
  | _ => none
theorem xbs_of {h : XH} {t : Nat} {vs : List Value} (hx : xbs h t = some vs) : h[t]? = some (.inr (.inr vs)) := by
  unfold xbs at hx
  split at hx
  · next vs' hc => cases hx; exact hc
  · cases hx
def o_aald (nx : Nat) : XF := fun ls st h => match st with
  | .int i :: .ref t :: st' => (match xbs h t with
    | some vs => if xin i vs.length = true then some (.inl (nx, ls, vs.getD i.toNatClampNeg .null :: st', h)) else none
    | none => none)
  | _ => none
theorem ok_aald (hd : decode cc pc = .ok (.aaload, 1)) (hp : pcs.getD nx 0 = pc + 1) : xOk own cc nL ini rk pcs pc (o_aald nx) := by
  refine xok_pure (fun ls st h x hx => ?_)
  unfold o_aald at hx
  split at hx
  · next i t st' =>
    split at hx
    · next vs hv =>
      split at hx
      · next hi =>
        cases hx
        refine ⟨_, _, _, rfl, fun G p l e R s m args below meth c d n0 s0 nF sF Q C kk H locs a hP hS hL => ?_⟩
        rw [hp] at kk
        have hc := hP.2.2 t _ (xbs_of hv)
        unfold xcell at hc
        dsimp only at hc
        have hin := xin_vp hi
        have hlt : i.toNatClampNeg < vs.length := Nat.not_le.mp fun q => hin (Or.inr q)
        exact W.aald (v := xv G (vs.getD i.toNatClampNeg .null)) (ty := .object RX0) C.1 C.2.1 hc.2 ((C.2.2.2.2.2.1.1.2 2 _ rfl).1 vs.length (fun j => xv G (vs.getD j .null))) rfl (fun q => by cases q) (by rw [arrV_size]; exact hin) (by rw [arrV_read _ _ hlt]) rfl rfl hd (kk H locs a hP hS hL)
      · cases hx
    · cases hx
  · cases hx
def o_aast (nx : Nat) : XF := fun ls st h => match st with
  | .ref v :: .int i :: .ref t :: st' => (match xbs h t with
    | some vs => if (xin i vs.length && decide (xcls h (.ref v) = some 0)) = true then some (.inl (nx, ls, st', h.set t (.inr (.inr (vs.set i.toNatClampNeg (.ref v)))))) else none
    | none => none)
  | _ => none
theorem xcls_of {h : XH} {v ci : Nat} (hx : xcls h (.ref v) = some ci) : ∃ fs, h[v]? = some (.inl (ci, fs)) := by
  unfold xcls at hx
  dsimp only at hx
  split at hx
  · next c fs hc => cases hx; exact ⟨fs, hc⟩
  · cases hx
theorem o_aast_of {ls st : List Value} {h : XH} {x : XS ⊕ XR} (hx : o_aast nx ls st h = some x) : ∃ v i t st' vs fs, st = .ref v :: .int i :: .ref t :: st' ∧ h[t]? = some (.inr (.inr vs)) ∧ xin i vs.length = true ∧ h[v]? = some (.inl (0, fs)) ∧ x = .inl (nx, ls, st', h.set t (.inr (.inr (vs.set i.toNatClampNeg (.ref v))))) := by
  unfold o_aast at hx
  split at hx
  · next v i t st' =>
    split at hx
    · next vs hv =>
      split at hx
      · next hi =>
        simp only [Bool.and_eq_true, decide_eq_true_eq] at hi
        cases hx
        obtain ⟨fs, hfs⟩ := xcls_of hi.2
        exact ⟨v, i, t, st', vs, fs, rfl, xbs_of hv, hi.1, hfs, rfl⟩
      · cases hx
    · cases hx
  · cases hx
theorem ok_aast (hd : decode cc pc = .ok (.aastore, 1)) (hp : pcs.getD nx 0 = pc + 1) : xOk own cc nL ini rk pcs pc (o_aast nx) := by
  refine ⟨fun ls st h x hx => ?_, fun G p l e R s m args below meth c d n0 s0 nF sF Q C ls st h hn hs => ⟨fun i' ls' st' h' hx _ _ kk H locs a hP hS hL => ?_, fun v h' hx _ => ?_⟩⟩
  · obtain ⟨v, i, t, st', vs, fs, rfl, h1, -, -, rfl⟩ := o_aast_of hx
    refine ⟨by simp, ?_⟩
    rw [xsl_set h1 (by simp [xsz])]
    exact Nat.le_refl _
  · obtain ⟨v, i, t, st2, vs, fs, rfl, h1, hi, h2, e1⟩ := o_aast_of hx
    cases e1
    rw [hp] at kk
    have hc := hP.2.2 t _ h1
    unfold xcell at hc
    dsimp only at hc
    obtain ⟨ht3, hc⟩ := hc
    have hv := hP.2.2 v _ h2
    unfold xcell at hv
    dsimp only at hv
    rw [if_neg (by decide)] at hv
    obtain ⟨hv3, r, hr, hlen, cellV, g1, g2, g3, -⟩ := hv
    have hin := xin_vp hi
    have hlt : i.toNatClampNeg < vs.length := Nat.not_le.mp fun q => hin (Or.inr q)
    have hi0 : ¬ i < 0 := fun q => hin (Or.inl q)
    have hK := C.2.2.2.2.2.1.1
    have hcls := (hK.1 0 _ rfl).2
    obtain ⟨kA, comp, k1, k2, k3, -⟩ := (hK.2 2 _ rfl).2
    have hcomp : comp = (gD G).1 0 := Option.some.inj (k3.symm.trans hcls.1)
    subst hcomp
    obtain ⟨kC, hkC, -⟩ := hcls.2
    refine W.aast C.1 C.2.1 hc (fun q h => by cases h) (fun h => by cases h) k1 k2 rfl hkC ⟨hi0, by rw [arrV_size]; exact hlt⟩ g1 (fun q h => by rw [g3] at h; cases h) (by rw [g2]; exact hkC) (by rw [g2]; exact va_assign hcls) rfl rfl hd fun H1 e z1 oq => ?_
    have hP' : xP G (h.set t (.inr (.inr (vs.set i.toNatClampNeg (.ref v))))) H1 := hP.set ht3 (List.getElem?_eq_some_iff.mp h1).1 (by
      unfold xcell
      dsimp only
      refine ⟨ht3, ?_⟩
      rw [e, arrV_store, List.length_set]
      congr 2
      funext q
      by_cases hq : q = i.toNatClampNeg
      · subst hq
        rw [List.getD_eq_getElem?_getD, List.getElem?_set_self hlt]
        simp [updV, xv]
      · rw [List.getD_eq_getElem?_getD, List.getElem?_set_ne (Ne.symm hq)]
        simp [updV, hq]) z1 oq
    have kk2 := kk H1 (locs ++ [⟨xad G t, i.toNatClampNeg⟩]) a hP' (hS.put z1 oq (xad_A ht3)) hL
    rw [List.length_set, xsl_set h1 (by simp [xsz])] at kk2
    exact kk2
  · obtain ⟨v2, i, t, st2, vs, fs, -, -, -, -, e1⟩ := o_aast_of hx
    cases e1
def o_ldcS (nx : Nat) : XF := fun ls st h => some (.inl (nx, ls, .ref 1 :: st, h))
theorem ok_ldcS (how : own = RX7) (hd : decode cc pc = .ok (.ldc 50, 2)) (hp : pcs.getD nx 0 = pc + 2) : xOk own cc nL ini rk pcs pc (o_ldcS nx) := by
  refine xok_pure (fun ls st h x hx => ?_)
  cases hx
  refine ⟨_, _, _, rfl, fun G p l e R s m args below meth c d n0 s0 nF sF Q C kk H locs a hP hS hL => ?_⟩
  rw [hp] at kk
  subst how
  obtain ⟨-, -, -, k4, -⟩ := C.2.2.2.2.2.1
  exact va_ldcS C.1 C.2.1 C.2.2.2.1 k4 hd (kk H locs a hP hS hL)
def o_gets (v : Value) (nx : Nat) : XF := fun ls st h => some (.inl (nx, ls, v :: st, h))
theorem ok_getsC {idx : Nat} (hd : decode cc pc = .ok (.getstatic idx, 3)) (hw : Cond.fieldLink own idx RJ0 "COMPACT_STRINGS" "Z" ∈ XW) (hp : pcs.getD nx 0 = pc + 3) : xOk own cc nL ini rk pcs pc (o_gets (.int 1) nx) := by
  refine xok_pure (fun ls st h x hx => ?_)
  cases hx
  refine ⟨_, _, _, rfl, fun G p l e R s m args below meth c d n0 s0 nF sF Q C kk H locs a hP hS hL => ?_⟩
  rw [hp] at kk
  obtain ⟨-, -, -, -, -, -, -, -, -, k10, -⟩ := C.2.2.2.2.2.1
  exact va_gets C.1 C.2.1 k10 hS C.2.2.2.1 (C.2.2.2.2.1 _ hw) (fun _ h9 => h9) hd (kk H locs a hP hS hL)
theorem ok_getsF {idx : Nat} (hd : decode cc pc = .ok (.getstatic idx, 3)) (hw : Cond.fieldLink own idx RJ3 "SIOOBE_FORMATTER" "Ljava/util/function/BiFunction;" ∈ XW) (hp : pcs.getD nx 0 = pc + 3) : xOk own cc nL ini rk pcs pc (o_gets (.double 0) nx) := by
  refine xok_pure (fun ls st h x hx => ?_)
  cases hx
  refine ⟨_, _, _, rfl, fun G p l e R s m args below meth c d n0 s0 nF sF Q C kk H locs a hP hS hL => ?_⟩
  rw [hp] at kk
  obtain ⟨-, -, -, -, -, -, -, -, -, -, k11, -⟩ := C.2.2.2.2.2.1
  exact va_gets C.1 C.2.1 k11 hS C.2.2.2.1 (C.2.2.2.2.1 _ hw) (fun _ h9 => h9) hd (kk H locs a hP hS hL)
def o_oini (nx : Nat) : XF := fun ls st h => match st with
  | .ref _ :: st' => if st'.length ≤ 8 then some (.inl (nx, ls, st', h)) else none
  | _ => none
theorem ok_oini {idx : Nat} (hd : decode cc pc = .ok (.invokespecial idx, 3)) (hw1 : Cond.methodLink own idx objectInit ∈ XW) (hw2 : Cond.instanceMethod objectInit ∈ XW) (hw3 : Cond.code objectInit ⟨#[0xb1]⟩ 1 none ∈ XW) (hp : pcs.getD nx 0 = pc + 3) : xOk own cc nL ini rk pcs pc (o_oini nx) := by
  refine xok_pure (fun ls st h x hx => ?_)
  unfold o_oini at hx
  split at hx
  · next t st' =>
    split at hx
    · next h8 =>
      cases hx
      refine ⟨_, _, _, rfl, fun G p l e R s m args below meth c d n0 s0 nF sF Q C kk H locs a hP hS hL => ?_⟩
      rw [hp] at kk
      have hF := C.2.2.2.2.2.1.2.2.2.2.2.2.2.2.2.2.2.1
      have hr := C.2.2.2.2.2.2.2
      have hts := C.2.2.2.2.1
      refine W.objInit C.1 C.2.1 C.2.2.2.1 (hts _ hw1) (hts _ hw2) (hts _ hw3) rfl (by rw [C.2.2.1]; exact hL.2.1) rfl hd (by omega) ?_ (kk H locs a hP hS hL)
      show 2 * 0 + ((st'.map (xv G)).map fun v => v.category).sum + 12 ≤ R.locals
      rw [xv_cats G hF]
      omega
    · cases hx
  · cases hx
end XS4
