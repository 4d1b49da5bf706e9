/-! OPERATIONS of the small machine, and what each says of the real one -/
def xCx (G : XG) (p : Program) (e : Env) (R : Room) (s : State) (m : MethodId) (args : Array Value) (meth : Method) (c : Code) (own : String) (cc : ByteArray) (nL d : Nat) (ini : Prop) (n0 s0 nF sF : Nat) : Prop :=
  p.tables.exec = Jvm.exec ∧ c.code = cc ∧ c.maxLocals = nL ∧ s.vm.findClass own = some m.cls ∧ (∀ w ∈ XW, w.before args s = true) ∧ xK G s s.heap ∧ (ini → meth.name = "<init>") ∧ d + 1 ≤ R.frames ∧ 64 * d + 64 ≤ R.locals ∧ nF - n0 ≤ R.cells ∧ sF - s0 ≤ R.slots
/-- the machine at an abstract state -/
def xW (G : XG) (p : Program) (l : Launch) (e : Env) (R : Room) (s : State) (m : MethodId) (args : Array Value) (below : List Frame) (meth : Method) (c : Code) (nL n0 s0 : Nat) (Q : State → Prop) (pc : Nat) (ls st : List Value) (h : XH) : Prop :=
  ∀ (H : Heap) (locs : List Loc) (a : Array Slot), xP G h H → va_S (xA G) s.heap H locs → xL G ls a nL → W p l e R s m args below meth c H locs (h.length - n0) (xsl h - s0) Q (F0 m pc a (st.map (xv G)))
/-- what the end needs: the value that is given back, the cells as they are then -/
def xFin (G : XG) (p : Program) (l : Launch) (e : Env) (R : Room) (s : State) (m : MethodId) (args : Array Value) (below : List Frame) (meth : Method) (c : Code) (cc : ByteArray) (n0 s0 : Nat) (Q : State → Prop) (rk : Int32 → Bool) (v : Option Value) (h : XH) : Prop :=
  ∀ (H : Heap) (locs : List Loc) (a : Array Slot) (pc : Nat), xP G h H → va_S (xA G) s.heap H locs →
    (∀ x : Int32, v = some (.int x) → rk x = true → decode cc pc = .ok (.ireturn, 1) → W p l e R s m args below meth c H locs (h.length - n0) (xsl h - s0) Q (F0 m pc a [.int x])) ∧
    (v = none → (∀ x, rk x = false) → decode cc pc = .ok (.return_, 1) → W p l e R s m args below meth c H locs (h.length - n0) (xsl h - s0) Q (F0 m pc a []))
def xGr (f : XF) : Prop := ∀ (ls st : List Value) (h : XH) (x : XS ⊕ XR), f ls st h = some x → match x with
  | .inl s => h.length ≤ s.2.2.2.length ∧ xsl h ≤ xsl s.2.2.2
  | .inr r => r.2 = h
def xIf (own : String) (cc : ByteArray) (nL : Nat) (ini : Prop) (rk : Int32 → Bool) (pcs : List Nat) (pc : Nat) (f : XF) : Prop :=
  ∀ (G : XG) (p : Program) (l : Launch) (e : Env) (R : Room) (s : State) (m : MethodId) (args : Array Value) (below : List Frame) (meth : Method) (c : Code) (d n0 s0 nF sF : Nat) (Q : State → Prop), xCx G p e R s m args meth c own cc nL d ini n0 s0 nF sF →
    ∀ (ls st : List Value) (h : XH), n0 ≤ h.length → s0 ≤ xsl h →
      (∀ (i' : Nat) (ls' st' : List Value) (h' : XH), f ls st h = some (.inl (i', ls', st', h')) → h'.length ≤ nF → xsl h' ≤ sF → xW G p l e R s m args below meth c nL n0 s0 Q (pcs.getD i' 0) ls' st' h' → xW G p l e R s m args below meth c nL n0 s0 Q pc ls st h) ∧
      (∀ (v : Option Value) (h' : XH), f ls st h = some (.inr (v, h')) → xFin G p l e R s m args below meth c cc n0 s0 Q rk v h' → xW G p l e R s m args below meth c nL n0 s0 Q pc ls st h)
/-- a step of the machine is right -/
def xOk (own : String) (cc : ByteArray) (nL : Nat) (ini : Prop) (rk : Int32 → Bool) (pcs : List Nat) (pc : Nat) (f : XF) : Prop := xGr f ∧ xIf own cc nL ini rk pcs pc f
section XS1
variable {own : String} {cc : ByteArray} {nL : Nat} {ini : Prop} {rk : Int32 → Bool} {pcs : List Nat} {pc nx : Nat}
/-- a step that leaves the cells alone -/
theorem xok_pure {f : XF} (hf : ∀ (ls st : List Value) (h : XH) (x : XS ⊕ XR), f ls st h = some x → ∃ (i' : Nat) (ls' st' : List Value), x = .inl (i', ls', st', h) ∧
    ∀ (G : XG) (p : Program) (l : Launch) (e : Env) (R : Room) (s : State) (m : MethodId) (args : Array Value) (below : List Frame) (meth : Method) (c : Code) (d n0 s0 nF sF : Nat) (Q : State → Prop), xCx G p e R s m args meth c own cc nL d ini n0 s0 nF sF → xW G p l e R s m args below meth c nL n0 s0 Q (pcs.getD i' 0) ls' st' h → xW G p l e R s m args below meth c nL n0 s0 Q pc ls st h) : xOk own cc nL ini rk pcs pc f := by
  refine ⟨fun ls st h x hx => ?_, fun G p l e R s m args below meth c d n0 s0 nF sF Q C ls st h hn hs => ⟨fun i' ls' st' h' hx _ _ k => ?_, fun v h' hx _ => ?_⟩⟩
  · obtain ⟨i', ls', st', rfl, -⟩ := hf ls st h x hx
    exact ⟨Nat.le_refl _, Nat.le_refl _⟩
  · obtain ⟨i2, ls2, st2, e1, k2⟩ := hf ls st h _ hx
    cases e1
    exact k2 G p l e R s m args below meth c d n0 s0 nF sF Q C k
  · obtain ⟨i2, ls2, st2, e1, k2⟩ := hf ls st h _ hx
    cases e1
def o_const (v : Int32) (nx : Nat) : XF := fun ls st h => some (.inl (nx, ls, .int v :: st, h))
theorem ok_iconst {n : Int} {v : Int32} (hd : decode cc pc = .ok (.iconst n, 1)) (hv : Int32.ofInt n = v) (hp : pcs.getD nx 0 = pc + 1) : xOk own cc nL ini rk pcs pc (o_const v nx) := by
  refine xok_pure (fun ls st h x hx => ?_)
  cases hx
  refine ⟨_, _, _, rfl, fun G p l e R s m args below meth c d n0 s0 nF sF Q C k H locs a hP hS hL => ?_⟩
  rw [hp] at k
  exact lv_iconst C.1 C.2.1 hd hv (k H locs a hP hS hL)
theorem ok_bipush {n : Int} {v : Int32} (hd : decode cc pc = .ok (.bipush n, 2)) (hv : (Int8.ofInt n).toInt32 = v) (hp : pcs.getD nx 0 = pc + 2) : xOk own cc nL ini rk pcs pc (o_const v nx) := by
  refine xok_pure (fun ls st h x hx => ?_)
  cases hx
  refine ⟨_, _, _, rfl, fun G p l e R s m args below meth c d n0 s0 nF sF Q C k H locs a hP hS hL => ?_⟩
  rw [hp] at k
  exact lv_bipush C.1 C.2.1 hd hv (k H locs a hP hS hL)
theorem ok_sipush {n : Int} {v : Int32} (hd : decode cc pc = .ok (.sipush n, 3)) (hv : (Int16.ofInt n).toInt32 = v) (hp : pcs.getD nx 0 = pc + 3) : xOk own cc nL ini rk pcs pc (o_const v nx) := by
  refine xok_pure (fun ls st h x hx => ?_)
  cases hx
  refine ⟨_, _, _, rfl, fun G p l e R s m args below meth c d n0 s0 nF sF Q C k H locs a hP hS hL => ?_⟩
  rw [hp] at k
  exact lv_sipush C.1 C.2.1 hd hv (k H locs a hP hS hL)
theorem ok_ldcw {idx : Nat} {v : Int32} (hd : decode cc pc = .ok (.ldc_w idx, 3)) (hw : Cond.constant own idx v ∈ XW) (hp : pcs.getD nx 0 = pc + 3) : xOk own cc nL ini rk pcs pc (o_const v nx) := by
  refine xok_pure (fun ls st h x hx => ?_)
  cases hx
  refine ⟨_, _, _, rfl, fun G p l e R s m args below meth c d n0 s0 nF sF Q C k H locs a hP hS hL => ?_⟩
  rw [hp] at k
  exact lv_ldcw C.1 C.2.1 C.2.2.2.1 (C.2.2.2.2.1 _ hw) hd (k H locs a hP hS hL)
def o_iload (k nx : Nat) : XF := fun ls st h => match ls[k]? with
  | some (.int x) => some (.inl (nx, ls, .int x :: st, h))
  | _ => none
theorem o_iload_of {k : Nat} {ls st : List Value} {h : XH} {x : XS ⊕ XR} (hx : o_iload k nx ls st h = some x) : ∃ z, ls[k]? = some (.int z) ∧ x = .inl (nx, ls, .int z :: st, h) := by
  unfold o_iload at hx
  split at hx
  · next z hz => cases hx; exact ⟨z, hz, rfl⟩
  · cases hx
theorem ok_iload_n {k : Fin 4} {j : Nat} (hd : decode cc pc = .ok (.iload_n k, 1)) (hk : (k : Nat) = j) (hp : pcs.getD nx 0 = pc + 1) : xOk own cc nL ini rk pcs pc (o_iload j nx) := by
  refine xok_pure (fun ls st h x hx => ?_)
  obtain ⟨z, hz, rfl⟩ := o_iload_of hx
  refine ⟨_, _, _, rfl, fun G p l e R s m args below meth c d n0 s0 nF sF Q C k H locs a hP hS hL => ?_⟩
  rw [hp] at k
  exact lv_iload_n C.1 C.2.1 hd hk (hL.2.2.2 j _ hz (fun q => by cases q)) (k H locs a hP hS hL)
theorem ok_iload {j : Nat} (hd : decode cc pc = .ok (.iload j, 2)) (hp : pcs.getD nx 0 = pc + 2) : xOk own cc nL ini rk pcs pc (o_iload j nx) := by
  refine xok_pure (fun ls st h x hx => ?_)
  obtain ⟨z, hz, rfl⟩ := o_iload_of hx
  refine ⟨_, _, _, rfl, fun G p l e R s m args below meth c d n0 s0 nF sF Q C k H locs a hP hS hL => ?_⟩
  rw [hp] at k
  exact lv_iload C.1 C.2.1 hd (hL.2.2.2 j _ hz (fun q => by cases q)) (k H locs a hP hS hL)
def o_aload (k nx : Nat) : XF := fun ls st h => match ls[k]? with
  | some (.ref x) => some (.inl (nx, ls, .ref x :: st, h))
  | _ => none
theorem o_aload_of {k : Nat} {ls st : List Value} {h : XH} {x : XS ⊕ XR} (hx : o_aload k nx ls st h = some x) : ∃ z, ls[k]? = some (.ref z) ∧ x = .inl (nx, ls, .ref z :: st, h) := by
  unfold o_aload at hx
  split at hx
  · next z hz => cases hx; exact ⟨z, hz, rfl⟩
  · cases hx
theorem ok_aload_n {k : Fin 4} {j : Nat} (hd : decode cc pc = .ok (.aload_n k, 1)) (hk : (k : Nat) = j) (hp : pcs.getD nx 0 = pc + 1) : xOk own cc nL ini rk pcs pc (o_aload j nx) := by
  refine xok_pure (fun ls st h x hx => ?_)
  obtain ⟨z, hz, rfl⟩ := o_aload_of hx
  refine ⟨_, _, _, rfl, fun G p l e R s m args below meth c d n0 s0 nF sF Q C k H locs a hP hS hL => ?_⟩
  rw [hp] at k
  exact lv_aload_n C.1 C.2.1 hd hk (hL.2.2.2 j _ hz (fun q => by cases q)) (k H locs a hP hS hL)
theorem ok_aload {j : Nat} (hd : decode cc pc = .ok (.aload j, 2)) (hp : pcs.getD nx 0 = pc + 2) : xOk own cc nL ini rk pcs pc (o_aload j nx) := by
  refine xok_pure (fun ls st h x hx => ?_)
  obtain ⟨z, hz, rfl⟩ := o_aload_of hx
  refine ⟨_, _, _, rfl, fun G p l e R s m args below meth c d n0 s0 nF sF Q C k H locs a hP hS hL => ?_⟩
  rw [hp] at k
  exact lv_aload C.1 C.2.1 hd (hL.2.2.2 j _ hz (fun q => by cases q)) (k H locs a hP hS hL)
def o_istore (k nx : Nat) : XF := fun ls st h => match st with
  | .int x :: st' => if k < ls.length then some (.inl (nx, ls.set k (.int x), st', h)) else none
  | _ => none
theorem o_istore_of {k : Nat} {ls st : List Value} {h : XH} {x : XS ⊕ XR} (hx : o_istore k nx ls st h = some x) : ∃ z st', st = .int z :: st' ∧ k < ls.length ∧ x = .inl (nx, ls.set k (.int z), st', h) := by
  unfold o_istore at hx
  split at hx
  · next z st' =>
    split at hx
    · next hk => cases hx; exact ⟨z, st', rfl, hk, rfl⟩
    · cases hx
  · cases hx
theorem ok_istore_n {k : Fin 4} {j : Nat} (hd : decode cc pc = .ok (.istore_n k, 1)) (hk : (k : Nat) = j) (hp : pcs.getD nx 0 = pc + 1) : xOk own cc nL ini rk pcs pc (o_istore j nx) := by
  refine xok_pure (fun ls st h x hx => ?_)
  obtain ⟨z, st', rfl, hz, rfl⟩ := o_istore_of hx
  refine ⟨_, _, _, rfl, fun G p l e R s m args below meth c d n0 s0 nF sF Q C k H locs a hP hS hL => ?_⟩
  rw [hp] at k
  have hF := C.2.2.2.2.2.1.2.2.2.2.2.2.2.2.2.2.2.1
  exact lv_istore_n C.1 C.2.1 hd hk hL.has (by rw [← hL.1]; exact hz) rfl (fun ls' h' => k H locs ls' hP hS (hL.set hF h'))
theorem ok_istore {j : Nat} (hd : decode cc pc = .ok (.istore j, 2)) (hp : pcs.getD nx 0 = pc + 2) : xOk own cc nL ini rk pcs pc (o_istore j nx) := by
  refine xok_pure (fun ls st h x hx => ?_)
  obtain ⟨z, st', rfl, hz, rfl⟩ := o_istore_of hx
  refine ⟨_, _, _, rfl, fun G p l e R s m args below meth c d n0 s0 nF sF Q C k H locs a hP hS hL => ?_⟩
  rw [hp] at k
  have hF := C.2.2.2.2.2.1.2.2.2.2.2.2.2.2.2.2.2.1
  exact lv_istore C.1 C.2.1 hd hL.has (by rw [← hL.1]; exact hz) rfl (fun ls' h' => k H locs ls' hP hS (hL.set hF h'))
def o_astore (k nx : Nat) : XF := fun ls st h => match st with
  | .ref x :: st' => if k < ls.length then some (.inl (nx, ls.set k (.ref x), st', h)) else none
  | _ => none
theorem o_astore_of {k : Nat} {ls st : List Value} {h : XH} {x : XS ⊕ XR} (hx : o_astore k nx ls st h = some x) : ∃ z st', st = .ref z :: st' ∧ k < ls.length ∧ x = .inl (nx, ls.set k (.ref z), st', h) := by
  unfold o_astore at hx
  split at hx
  · next z st' =>
    split at hx
    · next hk => cases hx; exact ⟨z, st', rfl, hk, rfl⟩
    · cases hx
  · cases hx
theorem ok_astore_n {k : Fin 4} {j : Nat} (hd : decode cc pc = .ok (.astore_n k, 1)) (hk : (k : Nat) = j) (hp : pcs.getD nx 0 = pc + 1) : xOk own cc nL ini rk pcs pc (o_astore j nx) := by
  refine xok_pure (fun ls st h x hx => ?_)
  obtain ⟨z, st', rfl, hz, rfl⟩ := o_astore_of hx
  refine ⟨_, _, _, rfl, fun G p l e R s m args below meth c d n0 s0 nF sF Q C k H locs a hP hS hL => ?_⟩
  rw [hp] at k
  have hF := C.2.2.2.2.2.1.2.2.2.2.2.2.2.2.2.2.2.1
  exact lv_astore_n C.1 C.2.1 hd hk hL.has (by rw [← hL.1]; exact hz) rfl (fun ls' h' => k H locs ls' hP hS (hL.set hF h'))
theorem ok_astore {j : Nat} (hd : decode cc pc = .ok (.astore j, 2)) (hp : pcs.getD nx 0 = pc + 2) : xOk own cc nL ini rk pcs pc (o_astore j nx) := by
  refine xok_pure (fun ls st h x hx => ?_)
  obtain ⟨z, st', rfl, hz, rfl⟩ := o_astore_of hx
  refine ⟨_, _, _, rfl, fun G p l e R s m args below meth c d n0 s0 nF sF Q C k H locs a hP hS hL => ?_⟩
  rw [hp] at k
  have hF := C.2.2.2.2.2.1.2.2.2.2.2.2.2.2.2.2.2.1
  exact lv_astore C.1 C.2.1 hd hL.has (by rw [← hL.1]; exact hz) rfl (fun ls' h' => k H locs ls' hP hS (hL.set hF h'))
def o_iinc (k : Nat) (n : Int32) (nx : Nat) : XF := fun ls st h => match ls[k]? with
  | some (.int x) => some (.inl (nx, ls.set k (.int (x + n)), st, h))
  | _ => none
theorem ok_iinc {j : Nat} {n : Int} {v : Int32} (hd : decode cc pc = .ok (.iinc j n, 3)) (hv : Int32.ofInt n = v) (hp : pcs.getD nx 0 = pc + 3) : xOk own cc nL ini rk pcs pc (o_iinc j v nx) := by
  refine xok_pure (fun ls st h x hx => ?_)
  unfold o_iinc at hx
  split at hx
  · next z hz =>
    cases hx
    refine ⟨_, _, _, rfl, fun G p l e R s m args below meth c d n0 s0 nF sF Q C k H locs a hP hS hL => ?_⟩
    rw [hp] at k
    have hF := C.2.2.2.2.2.1.2.2.2.2.2.2.2.2.2.2.2.1
    obtain ⟨q, hq⟩ := List.getElem?_of_mem (xlv_mem (G := G) hz (fun q => by cases q))
    exact lv_iinc (v := z + v) C.1 C.2.1 hd hL.has hq (by rw [hv]) (by rw [← hL.1]; exact (List.getElem?_eq_some_iff.mp hz).1) rfl (fun ls' h' => k H locs ls' hP hS (hL.set hF h'))
  · cases hx
def o_bin (g : Int32 → Int32 → Int32) (nx : Nat) : XF := fun ls st h => match st with
  | .int y :: .int x :: st' => some (.inl (nx, ls, .int (g x y) :: st', h))
  | _ => none
theorem o_bin_of {g : Int32 → Int32 → Int32} {ls st : List Value} {h : XH} {x : XS ⊕ XR} (hx : o_bin g nx ls st h = some x) : ∃ a b st', st = .int b :: .int a :: st' ∧ x = .inl (nx, ls, .int (g a b) :: st', h) := by
  unfold o_bin at hx
  split at hx
  · next b a st' => cases hx; exact ⟨a, b, st', rfl, rfl⟩
  · cases hx
def j_add (x y : Int32) : Int32 := x + y
def j_sub (x y : Int32) : Int32 := x - y
def j_mul (x y : Int32) : Int32 := x * y
def j_and (x y : Int32) : Int32 := x &&& y
def j_or (x y : Int32) : Int32 := x ||| y
def j_xor (x y : Int32) : Int32 := x ^^^ y
def j_shl (x y : Int32) : Int32 := x <<< (y &&& 31)
def j_shr (x y : Int32) : Int32 := x >>> (y &&& 31)
def j_ushr (x y : Int32) : Int32 := (x.toUInt32 >>> (y.toUInt32 &&& Int32.toUInt32 31)).toInt32
def j_div (x y : Int32) : Int32 := x / y
def j_rem (x y : Int32) : Int32 := x - x / y * y
def j_i2c (x : Int32) : Int32 := (x.toUInt32 % 65536).toInt32
theorem ok_iadd (hd : decode cc pc = .ok (.iadd, 1)) (hp : pcs.getD nx 0 = pc + 1) : xOk own cc nL ini rk pcs pc (o_bin j_add nx) := by
  refine xok_pure (fun ls st h x hx => ?_)
  obtain ⟨u, w, st', rfl, rfl⟩ := o_bin_of hx
  refine ⟨_, _, _, rfl, fun G p l e R s m args below meth c d n0 s0 nF sF Q C k H locs a hP hS hL => ?_⟩
  rw [hp] at k
  exact lv_iadd C.1 C.2.1 hd (k H locs a hP hS hL)
theorem ok_isub (hd : decode cc pc = .ok (.isub, 1)) (hp : pcs.getD nx 0 = pc + 1) : xOk own cc nL ini rk pcs pc (o_bin j_sub nx) := by
  refine xok_pure (fun ls st h x hx => ?_)
  obtain ⟨u, w, st', rfl, rfl⟩ := o_bin_of hx
  refine ⟨_, _, _, rfl, fun G p l e R s m args below meth c d n0 s0 nF sF Q C k H locs a hP hS hL => ?_⟩
  rw [hp] at k
  exact lv_isub C.1 C.2.1 hd (k H locs a hP hS hL)
theorem ok_imul (hd : decode cc pc = .ok (.imul, 1)) (hp : pcs.getD nx 0 = pc + 1) : xOk own cc nL ini rk pcs pc (o_bin j_mul nx) := by
  refine xok_pure (fun ls st h x hx => ?_)
  obtain ⟨u, w, st', rfl, rfl⟩ := o_bin_of hx
  refine ⟨_, _, _, rfl, fun G p l e R s m args below meth c d n0 s0 nF sF Q C k H locs a hP hS hL => ?_⟩
  rw [hp] at k
  exact lv_imul C.1 C.2.1 hd (k H locs a hP hS hL)
theorem ok_iand (hd : decode cc pc = .ok (.iand, 1)) (hp : pcs.getD nx 0 = pc + 1) : xOk own cc nL ini rk pcs pc (o_bin j_and nx) := by
  refine xok_pure (fun ls st h x hx => ?_)
  obtain ⟨u, w, st', rfl, rfl⟩ := o_bin_of hx
  refine ⟨_, _, _, rfl, fun G p l e R s m args below meth c d n0 s0 nF sF Q C k H locs a hP hS hL => ?_⟩
  rw [hp] at k
  exact lv_iand C.1 C.2.1 hd (k H locs a hP hS hL)
theorem ok_ior (hd : decode cc pc = .ok (.ior, 1)) (hp : pcs.getD nx 0 = pc + 1) : xOk own cc nL ini rk pcs pc (o_bin j_or nx) := by
  refine xok_pure (fun ls st h x hx => ?_)
  obtain ⟨u, w, st', rfl, rfl⟩ := o_bin_of hx
  refine ⟨_, _, _, rfl, fun G p l e R s m args below meth c d n0 s0 nF sF Q C k H locs a hP hS hL => ?_⟩
  rw [hp] at k
  exact lv_ior C.1 C.2.1 hd (k H locs a hP hS hL)
theorem ok_ixor (hd : decode cc pc = .ok (.ixor, 1)) (hp : pcs.getD nx 0 = pc + 1) : xOk own cc nL ini rk pcs pc (o_bin j_xor nx) := by
  refine xok_pure (fun ls st h x hx => ?_)
  obtain ⟨u, w, st', rfl, rfl⟩ := o_bin_of hx
  refine ⟨_, _, _, rfl, fun G p l e R s m args below meth c d n0 s0 nF sF Q C k H locs a hP hS hL => ?_⟩
  rw [hp] at k
  exact lv_ixor C.1 C.2.1 hd (k H locs a hP hS hL)
theorem ok_ishl (hd : decode cc pc = .ok (.ishl, 1)) (hp : pcs.getD nx 0 = pc + 1) : xOk own cc nL ini rk pcs pc (o_bin j_shl nx) := by
  refine xok_pure (fun ls st h x hx => ?_)
  obtain ⟨u, w, st', rfl, rfl⟩ := o_bin_of hx
  refine ⟨_, _, _, rfl, fun G p l e R s m args below meth c d n0 s0 nF sF Q C k H locs a hP hS hL => ?_⟩
  rw [hp] at k
  exact lv_ishl C.1 C.2.1 hd (k H locs a hP hS hL)
theorem ok_ishr (hd : decode cc pc = .ok (.ishr, 1)) (hp : pcs.getD nx 0 = pc + 1) : xOk own cc nL ini rk pcs pc (o_bin j_shr nx) := by
  refine xok_pure (fun ls st h x hx => ?_)
  obtain ⟨u, w, st', rfl, rfl⟩ := o_bin_of hx
  refine ⟨_, _, _, rfl, fun G p l e R s m args below meth c d n0 s0 nF sF Q C k H locs a hP hS hL => ?_⟩
  rw [hp] at k
  exact lv_ishr C.1 C.2.1 hd (k H locs a hP hS hL)
theorem ok_iushr (hd : decode cc pc = .ok (.iushr, 1)) (hp : pcs.getD nx 0 = pc + 1) : xOk own cc nL ini rk pcs pc (o_bin j_ushr nx) := by
  refine xok_pure (fun ls st h x hx => ?_)
  obtain ⟨u, w, st', rfl, rfl⟩ := o_bin_of hx
  refine ⟨_, _, _, rfl, fun G p l e R s m args below meth c d n0 s0 nF sF Q C k H locs a hP hS hL => ?_⟩
  rw [hp] at k
  exact lv_iushr C.1 C.2.1 hd rfl (k H locs a hP hS hL)
def o_dv (g : Int32 → Int32 → Int32) (nx : Nat) : XF := fun ls st h => match st with
  | .int y :: .int x :: st' => if y = 0 then none else some (.inl (nx, ls, .int (g x y) :: st', h))
  | _ => none
theorem o_dv_of {g : Int32 → Int32 → Int32} {ls st : List Value} {h : XH} {x : XS ⊕ XR} (hx : o_dv g nx ls st h = some x) : ∃ a b st', st = .int b :: .int a :: st' ∧ ¬ b = 0 ∧ x = .inl (nx, ls, .int (g a b) :: st', h) := by
  unfold o_dv at hx
  split at hx
  · next b a st' =>
    split at hx
    · cases hx
    · next hb => cases hx; exact ⟨a, b, st', rfl, hb, rfl⟩
  · cases hx
theorem ok_idiv (hd : decode cc pc = .ok (.idiv, 1)) (hp : pcs.getD nx 0 = pc + 1) : xOk own cc nL ini rk pcs pc (o_dv j_div nx) := by
  refine xok_pure (fun ls st h x hx => ?_)
  obtain ⟨u, w, st', rfl, hw, rfl⟩ := o_dv_of hx
  refine ⟨_, _, _, rfl, fun G p l e R s m args below meth c d n0 s0 nF sF Q C k H locs a hP hS hL => ?_⟩
  rw [hp] at k
  exact lv_idiv C.1 C.2.1 hd hw (k H locs a hP hS hL)
theorem ok_irem (hd : decode cc pc = .ok (.irem, 1)) (hp : pcs.getD nx 0 = pc + 1) : xOk own cc nL ini rk pcs pc (o_dv j_rem nx) := by
  refine xok_pure (fun ls st h x hx => ?_)
  obtain ⟨u, w, st', rfl, hw, rfl⟩ := o_dv_of hx
  refine ⟨_, _, _, rfl, fun G p l e R s m args below meth c d n0 s0 nF sF Q C k H locs a hP hS hL => ?_⟩
  rw [hp] at k
  exact lv_irem C.1 C.2.1 hd hw (k H locs a hP hS hL)
def o_i2c (nx : Nat) : XF := fun ls st h => match st with
  | .int x :: st' => some (.inl (nx, ls, .int (j_i2c x) :: st', h))
  | _ => none
theorem ok_i2c (hd : decode cc pc = .ok (.i2c, 1)) (hp : pcs.getD nx 0 = pc + 1) : xOk own cc nL ini rk pcs pc (o_i2c nx) := by
  refine xok_pure (fun ls st h x hx => ?_)
  unfold o_i2c at hx
  split at hx
  · cases hx
    refine ⟨_, _, _, rfl, fun G p l e R s m args below meth c d n0 s0 nF sF Q C k H locs a hP hS hL => ?_⟩
    rw [hp] at k
    exact lv_i2c C.1 C.2.1 hd rfl (k H locs a hP hS hL)
  · cases hx
def o_goto (nx : Nat) : XF := fun ls st h => some (.inl (nx, ls, st, h))
theorem ok_goto {off : Int} (hd : decode cc pc = .ok (.goto off, 3)) (hp : (pc : Int) + off = ((pcs.getD nx 0 : Nat) : Int)) : xOk own cc nL ini rk pcs pc (o_goto nx) := by
  refine xok_pure (fun ls st h x hx => ?_)
  cases hx
  refine ⟨_, _, _, rfl, fun G p l e R s m args below meth c d n0 s0 nF sF Q C k H locs a hP hS hL => ?_⟩
  exact lv_goto C.1 C.2.1 hd hp (k H locs a hP hS hL)
def o_dup (nx : Nat) : XF := fun ls st h => match st with
  | v :: st' => some (.inl (nx, ls, v :: v :: st', h))
  | _ => none
theorem ok_dup (hd : decode cc pc = .ok (.dup, 1)) (hp : pcs.getD nx 0 = pc + 1) : xOk own cc nL ini rk pcs pc (o_dup nx) := by
  refine xok_pure (fun ls st h x hx => ?_)
  unfold o_dup at hx
  split at hx
  · cases hx
    refine ⟨_, _, _, rfl, fun G p l e R s m args below meth c d n0 s0 nF sF Q C k H locs a hP hS hL => ?_⟩
    rw [hp] at k
    have hF := C.2.2.2.2.2.1.2.2.2.2.2.2.2.2.2.2.2.1
    exact lv_dup C.1 C.2.1 hd (xv_cat G hF _) (k H locs a hP hS hL)
  · cases hx
def o_dup2 (nx : Nat) : XF := fun ls st h => match st with
  | v :: w :: st' => some (.inl (nx, ls, v :: w :: v :: w :: st', h))
  | _ => none
theorem ok_dup2 (hd : decode cc pc = .ok (.dup2, 1)) (hp : pcs.getD nx 0 = pc + 1) : xOk own cc nL ini rk pcs pc (o_dup2 nx) := by
  refine xok_pure (fun ls st h x hx => ?_)
  unfold o_dup2 at hx
  split at hx
  · cases hx
    refine ⟨_, _, _, rfl, fun G p l e R s m args below meth c d n0 s0 nF sF Q C k H locs a hP hS hL => ?_⟩
    rw [hp] at k
    have hF := C.2.2.2.2.2.1.2.2.2.2.2.2.2.2.2.2.2.1
    exact lv_dup2_11 C.1 C.2.1 hd (xv_cat G hF _) (xv_cat G hF _) (k H locs a hP hS hL)
  · cases hx
def o_pop (nx : Nat) : XF := fun ls st h => match st with
  | _ :: st' => some (.inl (nx, ls, st', h))
  | _ => none
theorem ok_pop (hd : decode cc pc = .ok (.pop, 1)) (hp : pcs.getD nx 0 = pc + 1) : xOk own cc nL ini rk pcs pc (o_pop nx) := by
  refine xok_pure (fun ls st h x hx => ?_)
  unfold o_pop at hx
  split at hx
  · cases hx
    refine ⟨_, _, _, rfl, fun G p l e R s m args below meth c d n0 s0 nF sF Q C k H locs a hP hS hL => ?_⟩
    rw [hp] at k
    have hF := C.2.2.2.2.2.1.2.2.2.2.2.2.2.2.2.2.2.1
    exact lv_pop C.1 C.2.1 hd (xv_cat G hF _) (k H locs a hP hS hL)
  · cases hx
end XS1
