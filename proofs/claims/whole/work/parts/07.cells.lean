/-! OPERATIONS on cells -/
section XS3
variable {own : String} {cc : ByteArray} {nL : Nat} {ini : Prop} {rk : Int32 → Bool} {pcs : List Nat} {pc nx : Nat}
/-- an index within -/
def xin (i : Int32) (n : Nat) : Bool := decide (¬ i < 0) && decide (i.toNatClampNeg < n)
theorem xin_vp {i : Int32} {n : Nat} (h : xin i n = true) : vp_in i n := by
  unfold xin at h
  simp only [Bool.and_eq_true, decide_eq_true_eq] at h
  intro q
  rcases q with q | q
  · exact h.1 q
  · omega
def xgf (h : XH) (t ci k : Nat) : Option Value := match h[t]? with
  | some (.inl (c, fs)) => if c = ci then fs[k]? else none
  | _ => none
theorem xgf_of {h : XH} {t ci k : Nat} {v : Value} (hx : xgf h t ci k = some v) : ∃ fs, h[t]? = some (.inl (ci, fs)) ∧ fs[k]? = some v := by
  unfold xgf at hx
  split at hx
  · next c fs hc =>
    split at hx
    · next e => subst e; exact ⟨fs, hc, hx⟩
    · cases hx
  · cases hx
def o_getf (ci k nx : Nat) : XF := fun ls st h => match st with
  | .ref t :: st' => (match xgf h t ci k with
    | some v => some (.inl (nx, ls, v :: st', h))
    | none => none)
  | _ => none
theorem o_getf_of {ci k : Nat} {ls st : List Value} {h : XH} {x : XS ⊕ XR} (hx : o_getf ci k nx ls st h = some x) : ∃ t st' fs v, st = .ref t :: st' ∧ h[t]? = some (.inl (ci, fs)) ∧ fs[k]? = some v ∧ x = .inl (nx, ls, v :: st', h) := by
  unfold o_getf at hx
  split at hx
  · next t st' =>
    split at hx
    · next v hv =>
      cases hx
      obtain ⟨fs, h1, h2⟩ := xgf_of hv
      exact ⟨t, st', fs, v, rfl, h1, h2, rfl⟩
    · cases hx
  · cases hx
/-- a field of one of the program's own objects -/
theorem ok_getf {ci k idx N : Nat} {Cn : String} {T : u_T} (hd : decode cc pc = .ok (.getfield idx, 3)) (hc : vwCl[ci]? = some (Cn, T, N)) (hk : k < N) (h9 : ¬ ci = 9) (hin : ∀ w ∈ u_ws Cn T N, w ∈ XW) (hw : Cond.fieldLink own idx (T k).1 (T k).2.1 (T k).2.2.1 ∈ XW) (hp : pcs.getD nx 0 = pc + 3) : xOk own cc nL ini rk pcs pc (o_getf ci k nx) := by
  refine xok_pure (fun ls st h x hx => ?_)
  obtain ⟨t, st', fs, v, rfl, h1, h2, rfl⟩ := o_getf_of hx
  refine ⟨_, _, _, rfl, fun G p l e R s m args below meth c d n0 s0 nF sF Q C kk H locs a hP hS hL => ?_⟩
  rw [hp] at kk
  have hc1 := hP.2.2 t _ h1
  unfold xcell at hc1
  dsimp only at hc1
  rw [if_neg h9] at hc1
  obtain ⟨-, r, hr, hlen, cell, q1, q2, q3, q4⟩ := hc1
  have hr2 : r = (Cn, T, N) := Option.some.inj (hr.symm.trans hc)
  subst hr2
  have hK := C.2.2.2.2.2.1.1
  obtain ⟨hSl, hfc, kC, hkC, hkind⟩ := hK.1 ci _ hc
  obtain ⟨cf, kf, fi, f, hi, hsl⟩ := hSl k hk
  refine W.getf C.1 C.2.1 C.2.2.2.1 (C.2.2.2.2.1 _ hw) hi (u_facts hfc hkC (u_lays (ws := XW) C.2.2.2.2.1 hin hk) hi).1 q1 (by rw [q3]; exact fun h => by cases h) (v := xv G v) ?_ rfl rfl hd (kk H locs a hP hS hL)
  rw [hsl, q4 k hk]
  simp [vp_V, h2]
/-- the one text's fields -/
theorem ok_getS {k idx : Nat} {fn fd : String} (hd : decode cc pc = .ok (.getfield idx, 3)) (hw : Cond.fieldLink own idx RJ0 fn fd ∈ XW) (hk : (k = 0 ∧ fn = "value" ∧ fd = "[B") ∨ (k = 1 ∧ fn = "coder" ∧ fd = "B")) (hp : pcs.getD nx 0 = pc + 3) : xOk own cc nL ini rk pcs pc (o_getf 9 k nx) := by
  refine xok_pure (fun ls st h x hx => ?_)
  obtain ⟨t, st', fs, v, rfl, h1, h2, rfl⟩ := o_getf_of hx
  refine ⟨_, _, _, rfl, fun G p l e R s m args below meth c d n0 s0 nF sF Q C kk H locs a hP hS hL => ?_⟩
  rw [hp] at kk
  have hc1 := hP.2.2 t _ h1
  unfold xcell at hc1
  dsimp only at hc1
  rw [if_pos rfl] at hc1
  obtain ⟨rfl, rfl⟩ := hc1
  obtain ⟨-, -, -, -, -, k6, k7, k8, -⟩ := C.2.2.2.2.2.1
  rcases hk with ⟨rfl, rfl, rfl⟩ | ⟨rfl, rfl, rfl⟩
  · cases h2
    exact vk_getf C.1 C.2.1 k8 hS C.2.2.2.1 (C.2.2.2.2.1 _ hw) (fun _ h9 => h9) hd (kk H locs a hP hS hL)
  · cases h2
    exact vk_getf C.1 C.2.1 k7 hS C.2.2.2.1 (C.2.2.2.2.1 _ hw) (fun _ h9 => h9) hd (kk H locs a hP hS hL)
def xkd (isR : Bool) (v : Value) : Bool := match v with
  | .int _ => !isR
  | .ref _ => isR
  | _ => false
def o_put (isR : Bool) (ci k nx : Nat) : XF := fun ls st h => match st with
  | v :: .ref t :: st' => (match h[t]? with
    | some (.inl (c, fs)) => if (decide (c = ci) && (decide (k < fs.length) && xkd isR v)) = true then some (.inl (nx, ls, st', h.set t (.inl (ci, fs.set k v)))) else none
    | _ => none)
  | _ => none
theorem o_put_of {isR : Bool} {ci k : Nat} {ls st : List Value} {h : XH} {x : XS ⊕ XR} (hx : o_put isR ci k nx ls st h = some x) : ∃ v t st' fs, st = v :: .ref t :: st' ∧ h[t]? = some (.inl (ci, fs)) ∧ k < fs.length ∧ ((isR = false ∧ ∃ z, v = .int z) ∨ (isR = true ∧ ∃ z, v = .ref z)) ∧ x = .inl (nx, ls, st', h.set t (.inl (ci, fs.set k v))) := by
  unfold o_put at hx
  split at hx
  · next v t st' =>
    split at hx
    · next c fs hc =>
      split at hx
      · next q =>
        simp only [Bool.and_eq_true, decide_eq_true_eq] at q
        obtain ⟨q1, q2, q3⟩ := q
        subst q1
        cases hx
        refine ⟨v, t, st', fs, rfl, hc, q2, ?_, rfl⟩
        cases v <;> first | exact Or.inr ⟨q3, _, rfl⟩ | exact Or.inl ⟨by simpa [xkd] using q3, _, rfl⟩ | cases q3
      · cases hx
    · cases hx
  · cases hx
theorem xgr_put {isR : Bool} {ci k : Nat} : xGr (o_put isR ci k nx) := by
  intro ls st h x hx
  obtain ⟨v, t, st', fs, rfl, h1, h2, -, rfl⟩ := o_put_of hx
  refine ⟨by simp, ?_⟩
  rw [xsl_set h1 (by simp [xsz])]
  exact Nat.le_refl _
theorem ok_put {isR : Bool} {ci k idx N : Nat} {Cn : String} {T : u_T} {ty : FieldType} (hd : decode cc pc = .ok (.putfield idx, 3)) (hc : vwCl[ci]? = some (Cn, T, N)) (hk : k < N) (h9 : ¬ ci = 9) (hin : ∀ w ∈ u_ws Cn T N, w ∈ XW) (ty0 : Nat → FieldType) (hty : ∀ k, k < N → parseFieldDescriptor (T k).2.2.1 = some (ty0 k)) (hnm : ∀ a, a < N → ∀ b, b < N → a ≠ b → (T a).2.1 ≠ (T b).2.1) (hfin : (T k).2.2.2 = false) (hdt : parseFieldDescriptor (T k).2.2.1 = some ty)
    (hnf : ∀ v : Value, ((isR = false ∧ ∃ z, v = .int z) ∨ (isR = true ∧ ∃ z, v = .ref z)) → narrow ty v = v ∧ fits ty v = true) (hw : Cond.fieldLink own idx (T k).1 (T k).2.1 (T k).2.2.1 ∈ XW) (hp : pcs.getD nx 0 = pc + 3) : xOk own cc nL ini rk pcs pc (o_put isR ci k nx) := by
  refine ⟨xgr_put, fun G p l e R s m args below meth c d n0 s0 nF sF Q C ls st h hn hs => ⟨fun i' ls' st' h' hx _ _ kk H locs a hP hS hL => ?_, fun v h' hx _ => ?_⟩⟩
  · obtain ⟨v, t, st2, fs, rfl, h1, h2, h3, e1⟩ := o_put_of hx
    cases e1
    rw [hp] at kk
    have hc1 := hP.2.2 t _ h1
    unfold xcell at hc1
    dsimp only at hc1
    rw [if_neg h9] at hc1
    obtain ⟨ht3, r, hr, hlen, cell, q1, q2, q3, q4⟩ := hc1
    have hr2 : r = (Cn, T, N) := Option.some.inj (hr.symm.trans hc)
    subst hr2
    have hK := C.2.2.2.2.2.1.1
    have hts : ∀ w ∈ XW, w.before args s = true := C.2.2.2.2.1
    have hap := va_apart (own := own) hts hin ty0 hty hnm hK hc
    obtain ⟨hSl, hfc, kC, hkC, hkind⟩ := hK.1 ci _ hc
    obtain ⟨cf, kf, fi, f, hi, hsl⟩ := hSl k hk
    have hlay := hts _ (hin _ (u_in_lay hk))
    unfold u_lay at hlay
    rw [if_neg (by rw [hfin]; decide)] at hlay
    have hst := (u_facts hfc hkC (u_lays hts hin hk) hi).1
    have hv2 : narrow ty (xv G v) = xv G v ∧ fits ty (xv G v) = true := by
      refine hnf _ ?_
      rcases h3 with ⟨g1, z, rfl⟩ | ⟨g1, z, rfl⟩
      · exact Or.inl ⟨g1, z, rfl⟩
      · exact Or.inr ⟨g1, _, rfl⟩
    have h6 := u_store hfc hkC hkind hlay hi hdt hv2.1 hv2.2
    refine W.putK C.1 C.2.1 (f := f) ⟨C.2.2.2.1, hts _ hw, ⟨_, _, _, hi⟩, hst⟩ (by rw [q2]; exact h6) q1 q3 (by rw [hsl]; exact k2_hasslot (q4 k hk)) rfl rfl hd fun H' e1 e2 e3 => ?_
    rw [hsl] at e1 ⊢
    have hl := (List.getElem?_eq_some_iff.mp h1).1
    have hP' : xP G (h.set t (.inl (ci, fs.set k v))) H' := hP.set ht3 hl (by
      unfold xcell
      dsimp only
      rw [if_neg h9]
      refine ⟨ht3, _, hc, by simpa using hlen, ?_⟩
      refine t_OB.to (V := updV (vp_V (fs.map (xv G))) k (xv G v)) ⟨_, e1, q2, q3, t_set q4 hap hk _⟩ (fun j _ => ?_)
      rw [vp_updV_set (by simpa using h2), List.map_set]) e2 e3
    have kk2 := kk H' (locs ++ [⟨xad G t, (gD G).2 ci k⟩]) a hP' (hS.put e2 e3 (xad_A ht3)) hL
    rw [List.length_set, xsl_set h1 (by simp [xsz])] at kk2
    exact kk2
  · obtain ⟨v2, t, st2, fs, -, -, -, -, e1⟩ := o_put_of hx
    cases e1
/-- a final field, in its class's constructor -/
theorem ok_putF {isR : Bool} {ci k idx N : Nat} {Cn : String} {T : u_T} {ty : FieldType} (hd : decode cc pc = .ok (.putfield idx, 3)) (hc : vwCl[ci]? = some (Cn, T, N)) (hk : k < N) (h9 : ¬ ci = 9) (hin : ∀ w ∈ u_ws Cn T N, w ∈ XW) (ty0 : Nat → FieldType) (hty : ∀ k, k < N → parseFieldDescriptor (T k).2.2.1 = some (ty0 k)) (hnm : ∀ a, a < N → ∀ b, b < N → a ≠ b → (T a).2.1 ≠ (T b).2.1) (hfin : (T k).2.2.2 = true) (hi0 : ini) (hdecl : (T k).1 = own) (hdt : parseFieldDescriptor (T k).2.2.1 = some ty)
    (hnf : ∀ v : Value, ((isR = false ∧ ∃ z, v = .int z) ∨ (isR = true ∧ ∃ z, v = .ref z)) → narrow ty v = v ∧ fits ty v = true) (hw : Cond.fieldLink own idx (T k).1 (T k).2.1 (T k).2.2.1 ∈ XW) (hp : pcs.getD nx 0 = pc + 3) : xOk own cc nL ini rk pcs pc (o_put isR ci k nx) := by
  refine ⟨xgr_put, fun G p l e R s m args below meth c d n0 s0 nF sF Q C ls st h hn hs => ⟨fun i' ls' st' h' hx _ _ kk H locs a hP hS hL => ?_, fun v h' hx _ => ?_⟩⟩
  · obtain ⟨v, t, st2, fs, rfl, h1, h2, h3, e1⟩ := o_put_of hx
    cases e1
    rw [hp] at kk
    have hc1 := hP.2.2 t _ h1
    unfold xcell at hc1
    dsimp only at hc1
    rw [if_neg h9] at hc1
    obtain ⟨ht3, r, hr, hlen, cell, q1, q2, q3, q4⟩ := hc1
    have hr2 : r = (Cn, T, N) := Option.some.inj (hr.symm.trans hc)
    subst hr2
    have hK := C.2.2.2.2.2.1.1
    have hts : ∀ w ∈ XW, w.before args s = true := C.2.2.2.2.1
    have hap := va_apart (own := own) hts hin ty0 hty hnm hK hc
    obtain ⟨hSl, hfc, kC, hkC, hkind⟩ := hK.1 ci _ hc
    obtain ⟨cf, kf, fi, f, hi, hsl⟩ := hSl k hk
    have hlay := hts _ (hin _ (u_in_lay hk))
    unfold u_lay at hlay
    rw [if_pos hfin] at hlay
    have hst := (u_facts hfc hkC (u_lays hts hin hk) hi).1
    have hcf : m.cls = cf := by
      obtain ⟨_, _, c', _, _, _, -, -, hf', -, -, -, hown2, -⟩ := Cond.laysFinal_spec hlay
      have e1 : c' = cf := by have := hi.symm.trans hf'; simp at this; exact this.1.symm
      rw [hdecl] at hown2
      rw [← e1]; exact Option.some.inj (C.2.2.2.1.symm.trans hown2)
    have hv2 : narrow ty (xv G v) = xv G v ∧ fits ty (xv G v) = true := by
      refine hnf _ ?_
      rcases h3 with ⟨g1, z, rfl⟩ | ⟨g1, z, rfl⟩
      · exact Or.inl ⟨g1, z, rfl⟩
      · exact Or.inr ⟨g1, _, rfl⟩
    have h6 := u_fits hfc hkC hkind (Or.inr hlay) hi hdt hv2.1 hv2.2
    refine W.putFinK C.1 C.2.1 C.2.2.2.1 (hts _ hw) hi hst hcf (C.2.2.2.2.2.2.1 hi0) (by rw [q2]; exact h6) q1 q3 (by rw [hsl]; exact k2_hasslot (q4 k hk)) rfl rfl hd fun H' e1 e2 e3 => ?_
    rw [hsl] at e1 ⊢
    have hl := (List.getElem?_eq_some_iff.mp h1).1
    have hP' : xP G (h.set t (.inl (ci, fs.set k v))) H' := hP.set ht3 hl (by
      unfold xcell
      dsimp only
      rw [if_neg h9]
      refine ⟨ht3, _, hc, by simpa using hlen, ?_⟩
      refine t_OB.to (V := updV (vp_V (fs.map (xv G))) k (xv G v)) ⟨_, e1, q2, q3, t_set q4 hap hk _⟩ (fun j _ => ?_)
      rw [vp_updV_set (by simpa using h2), List.map_set]) e2 e3
    have kk2 := kk H' (locs ++ [⟨xad G t, (gD G).2 ci k⟩]) a hP' (hS.put e2 e3 (xad_A ht3)) hL
    rw [List.length_set, xsl_set h1 (by simp [xsz])] at kk2
    exact kk2
  · obtain ⟨v2, t, st2, fs, -, -, -, -, e1⟩ := o_put_of hx
    cases e1
end XS3
