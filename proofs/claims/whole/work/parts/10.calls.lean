/-! CALLS, and the machine's truth: what the small machine comes to, the real one comes to -/
abbrev XMt : Type := Nat → MethodName × ByteArray × Nat × Option FieldType
def rkOf (r : Option FieldType) (v : Int32) : Bool := match r with
  | none => false
  | some ty => decide (vp_nar ty v = v)
theorem nar_int (ty : FieldType) (v : Int32) : narrow ty (.int v) = .int (vp_nar ty v) := by cases ty <;> rfl
def xPc (G : XG) (as : List Value) (h : XH) : Array Value → State → Prop := fun v U => v = (as.map (xv G)).toArray ∧ xP G h U.heap ∧ xK G U U.heap
def xQc (G : XG) (r : Option Value) (h : XH) : Array Value → State → Outcome → State → Prop := fun _ st o t => o = .returned (r.map (xv G)) ∧ xP G h t.heap ∧ va_F (xA G) st t
def xMet (M : XMt) (G : XG) (l : Launch) (d m : Nat) (as : List Value) (h : XH) (r : Option Value) (h' : XH) : Prop :=
  Met l (M m).1 (Cond.code (M m).1 (M m).2.1 (M m).2.2.1 (M m).2.2.2 :: XW) { frames := d + 1, cells := h'.length - h.length, slots := xsl h' - xsl h, locals := 64 * d + 64 } (xPc G as h) (xQc G r h') (h'.length - h.length) (xsl h' - xsl h) (xA G)
theorem xPc_blind {G : XG} {as : List Value} {h : XH} : FrameBlind (xPc G as h) := fun a U g mk q => ⟨q.1, q.2.1, q.2.2.blind⟩
def xCk (M : XMt) (own : String) (cc : ByteArray) (nL : Nat) (ini : Prop) (pcs : List Nat) (pc : Nat) (q : Option Nat × Nat × Nat × Nat) : Prop :=
  ∀ (G : XG) (p : Program) (l : Launch) (e : Env) (R : Room) (s : State) (m : MethodId) (args : Array Value) (below : List Frame) (meth : Method) (c : Code) (d n0 s0 nF sF : Nat) (Q : State → Prop), xCx G p e R s m args meth c own cc nL (d + 1) ini n0 s0 nF sF →
    ∀ (ls st : List Value) (h : XH) (r : Option Value) (h' : XH), n0 ≤ h.length → s0 ≤ xsl h → h.length ≤ h'.length → xsl h ≤ xsl h' → h'.length ≤ nF → xsl h' ≤ sF → xcok q.1 q.2.1 st h = true → xMet M G l d q.2.2.1 (st.take q.2.1).reverse h r h' →
      xW G p l e R s m args below meth c nL n0 s0 Q (pcs.getD q.2.2.2 0) ls (r.toList ++ st.drop q.2.1) h' → xW G p l e R s m args below meth c nL n0 s0 Q pc ls st h
theorem xgood {ws : List Cond} (h : ∀ w ∈ ws, w ∈ XW) : GoodIn XW ws := fun w hw => ⟨h w hw, good_of_word (xw_good w (h w hw))⟩
theorem xcok_of {rc : Option Nat} {k : Nat} {st : List Value} {h : XH} (hx : xcok rc k st h = true) : k ≤ st.length ∧ (st.drop k).length ≤ 8 ∧ ∀ ci, rc = some ci → ∃ t as fs, (st.take k).reverse = .ref t :: as ∧ h[t]? = some (.inl (ci, fs)) := by
  unfold xcok at hx
  simp only [Bool.and_eq_true, decide_eq_true_eq] at hx
  refine ⟨hx.1.1, hx.1.2, fun ci hc => ?_⟩
  subst hc
  have h2 := hx.2
  simp only [decide_eq_true_eq] at h2
  cases hr : (st.take k).reverse with
  | nil => rw [hr] at h2; simp at h2
  | cons v as =>
    rw [hr] at h2
    simp only [List.head?_cons, Option.bind_some] at h2
    cases v with
    | ref t =>
      obtain ⟨fs, hfs⟩ := xcls_of h2
      exact ⟨t, as, fs, rfl, hfs⟩
    | _ => simp [xcls] at h2
theorem xstk {G : XG} {st : List Value} {k : Nat} : st.map (xv G) = (((st.take k).reverse).map (xv G)).reverse ++ (st.drop k).map (xv G) := by
  rw [List.map_reverse, List.reverse_reverse, ← List.map_append, List.take_append_drop]
section XC1
variable {M : XMt} {own : String} {cc : ByteArray} {nL : Nat} {ini : Prop} {pcs : List Nat} {pc nx mj : Nat}
variable {G : XG} {p : Program} {l : Launch} {e : Env} {R : Room} {s : State} {m : MethodId} {args : Array Value} {below : List Frame} {meth : Method} {c : Code} {d n0 s0 nF sF : Nat} {Q : State → Prop}
/-- behind a call -/
theorem xcall_fin {ls st : List Value} {h h' : XH} {r : Option Value} {k : Nat} {H : Heap} {locs : List Loc} {a : Array Slot} {av : Array Value} (h1 : n0 ≤ h.length) (h2 : s0 ≤ xsl h) (h3 : h.length ≤ h'.length) (h4 : xsl h ≤ xsl h') (hS : va_S (xA G) s.heap H locs) (hL : xL G ls a nL)
    (hr : va_Run p l e R s m args below meth c H locs (h.length - n0) (xsl h - s0) (h'.length - h.length) (xsl h' - xsl h) (F0 m pc a (st.map (xv G))) ((st.drop k).map (xv G)) (xQc G r h' av) (xA G))
    (kk : xW G p l e R s m args below meth c nL n0 s0 Q (pc + 3) ls (r.toList ++ st.drop k) h') : W p l e R s m args below meth c H locs (h.length - n0) (xsl h - s0) Q (F0 m pc a (st.map (xv G))) := by
  intro T hT X
  obtain ⟨v, st₀, t, T', L, e0, X', hLo, e1, e2, ⟨hv, hP', hz, hk⟩, stp⟩ := hr T hT X
  have hv' : v = r.map (xv G) := Outcome.returned.inj hv
  subst hv'
  rw [e0] at hz hk
  rw [← e1] at hP' hz hk
  have kk2 := kk T'.heap (locs ++ L) a hP' ⟨Nat.le_trans hS.1 hz, fun q g1 g2 => by rw [hk q (Nat.lt_of_lt_of_le g1 hS.1) g2]; exact hS.2.1 q g1 g2, fun q hq => by
      rcases List.mem_append.mp hq with g | g
      · exact hS.2.2 q g
      · exact hLo q g⟩ hL
  have ea : h'.length - n0 = h.length - n0 + (h'.length - h.length) := by omega
  have eb : xsl h' - s0 = xsl h - s0 + (xsl h' - xsl h) := by omega
  have es : (r.toList ++ st.drop k).map (xv G) = (r.map (xv G)).toList ++ (st.drop k).map (xv G) := by cases r <;> simp
  rw [ea, eb, es] at kk2
  obtain ⟨t2, a1, b1⟩ := kk2 T' rfl X'
  exact ⟨t2, stp t2 a1, b1⟩
theorem xpre {as : List Value} {h : XH} {H : Heap} {locs : List Loc} (hK : xK G s s.heap) (hP : xP G h H) (hS : va_S (xA G) s.heap H locs) : PreS s H (xPc G as h) (as.map (xv G)) :=
  ⟨xPc_blind, fun U hU hW => ⟨rfl, by rw [hU]; exact hP, by
    refine hK.moved hW (by rw [hU]; exact hS.1) (fun q g1 g2 => ?_)
    rw [hU]
    exact hS.2.1 q g1 g2⟩⟩
/-- invokestatic -/
theorem ok_callS {idx n : Nat} (hd : decode cc pc = .ok (.invokestatic idx, 3)) (hw1 : Cond.methodLink own idx (M mj).1 ∈ XW) (hw2 : Cond.static (M mj).1 ∈ XW) (hw3 : Cond.initialized (M mj).1.cls ∈ XW) (hw4 : Cond.code (M mj).1 (M mj).2.1 (M mj).2.2.1 (M mj).2.2.2 ∈ XW)
    (hy : (M mj).1.cls ≠ "java/lang/invoke/MethodHandle" ∧ (M mj).1.cls ≠ "java/lang/invoke/VarHandle" ∧ (parseMethodDescriptor (M mj).1.desc).map (fun d => d.parameters.length) = some n) (hl : (M mj).2.2.1 ≤ 45) (hp : pcs.getD nx 0 = pc + 3) : xCk M own cc nL ini pcs pc (none, n, mj, nx) := by
  intro G p l e R s m args below meth c d n0 s0 nF sF Q C ls st h r h' h1 h2 h3 h4 h5 h6 hc hM kk H locs a hP hS hL
  dsimp only at hc hM kk
  rw [hp] at kk
  obtain ⟨c1, c2, -⟩ := xcok_of hc
  have hF := C.2.2.2.2.2.1.2.2.2.2.2.2.2.2.2.2.2.1
  have hr := C.2.2.2.2.2.2.2
  have hts := C.2.2.2.2.1
  refine xcall_fin (k := n) h1 h2 h3 h4 hS hL (va_runS (As := ((st.take n).reverse).map (xv G)) ⟨C.1, C.2.1, C.2.2.1, C.2.2.2.1, hts⟩ hM (va_cwS n hts (xgood (fun w hw => ?_)) rfl rfl rfl hy ⟨by show d + 1 + 1 ≤ R.frames; omega, by show 8 + (_ + 11) + (64 * d + 64) ≤ R.locals; omega⟩) (xpre C.2.2.2.2.2.1 hP hS) rfl (by simp; omega) hL.2.1 xstk (lv_room (by rw [xv_cats G hF]; exact c2)) hd ⟨by omega, by omega⟩) kk
  simp only [va_wsS, List.cons_append, List.nil_append, List.mem_cons] at hw
  rcases hw with rfl | rfl | rfl | rfl | hw
  · exact hw1
  · exact hw2
  · exact hw3
  · exact hw4
  · exact hw
/-- invokestatic of a nest mate's private method -/
theorem ok_callSN {idx n : Nat} (hd : decode cc pc = .ok (.invokestatic idx, 3)) (hw1 : (own, idx, (M mj).1) ∈ xnest) (hw2 : Cond.static (M mj).1 ∈ XW) (hw3 : Cond.initialized (M mj).1.cls ∈ XW) (hw4 : Cond.code (M mj).1 (M mj).2.1 (M mj).2.2.1 (M mj).2.2.2 ∈ XW)
    (hy : (M mj).1.cls ≠ "java/lang/invoke/MethodHandle" ∧ (M mj).1.cls ≠ "java/lang/invoke/VarHandle" ∧ (parseMethodDescriptor (M mj).1.desc).map (fun d => d.parameters.length) = some n) (hl : (M mj).2.2.1 ≤ 45) (hp : pcs.getD nx 0 = pc + 3) : xCk M own cc nL ini pcs pc (none, n, mj, nx) := by
  intro G p l e R s m args below meth c d n0 s0 nF sF Q C ls st h r h' h1 h2 h3 h4 h5 h6 hc hM kk H locs a hP hS hL
  dsimp only at hc hM kk
  rw [hp] at kk
  obtain ⟨c1, c2, -⟩ := xcok_of hc
  have hF := C.2.2.2.2.2.1.2.2.2.2.2.2.2.2.2.2.2.1
  have hr := C.2.2.2.2.2.2.2
  have hts := C.2.2.2.2.1
  obtain ⟨-, -, k3, -⟩ := C.2.2.2.2.2.1
  refine xcall_fin (k := n) h1 h2 h3 h4 hS hL (va_runSN (As := ((st.take n).reverse).map (xv G)) ⟨C.1, C.2.1, C.2.2.1, C.2.2.2.1, hts⟩ hM ⟨va_cnB n hts (xgood (fun w hw => ?_)) rfl rfl rfl (k3 _ hw1) (hts _ hw3) hy ⟨by show d + 1 + 1 ≤ R.frames; omega, by show 8 + (_ + 11) + (64 * d + 64) ≤ R.locals; omega⟩, hts _ hw2, trivial⟩ (xpre C.2.2.2.2.2.1 hP hS) rfl (by simp; omega) hL.2.1 xstk (lv_room (by rw [xv_cats G hF]; exact c2)) hd ⟨by omega, by omega⟩) kk
  rcases List.mem_cons.mp hw with rfl | hw
  · exact hw4
  · exact hw
/-- invokespecial of a constructor -/
theorem ok_callI {idx n : Nat} (hd : decode cc pc = .ok (.invokespecial idx, 3)) (hw1 : Cond.methodLink own idx (M mj).1 ∈ XW) (hw2 : Cond.instanceMethod (M mj).1 ∈ XW) (hw3 : Cond.initialized (M mj).1.cls ∈ XW) (hw4 : Cond.code (M mj).1 (M mj).2.1 (M mj).2.2.1 (M mj).2.2.2 ∈ XW) (hnm : (M mj).1.name = "<init>") (hret : (M mj).2.2.2 = none)
    (hy : (M mj).1.cls ≠ "java/lang/invoke/MethodHandle" ∧ (M mj).1.cls ≠ "java/lang/invoke/VarHandle" ∧ (parseMethodDescriptor (M mj).1.desc).map (fun d => d.parameters.length) = some n) (hl : (M mj).2.2.1 ≤ 45) {ci : Nat} (hp : pcs.getD nx 0 = pc + 3) : xCk M own cc nL ini pcs pc (some ci, n + 1, mj, nx) := by
  intro G p l e R s m args below meth c d n0 s0 nF sF Q C ls st h r h' h1 h2 h3 h4 h5 h6 hc hM kk H locs a hP hS hL
  dsimp only at hc hM kk
  rw [hp] at kk
  obtain ⟨c1, c2, c3⟩ := xcok_of hc
  obtain ⟨t, as, fs, ha, -⟩ := c3 ci rfl
  have hF := C.2.2.2.2.2.1.2.2.2.2.2.2.2.2.2.2.2.1
  have hr := C.2.2.2.2.2.2.2
  have hts := C.2.2.2.2.1
  have hlen : as.length = n := by
    have := congrArg List.length ha
    simp at this
    omega
  have hst := xstk (G := G) (st := st) (k := n + 1)
  rw [ha] at hM hst
  rw [hret] at hw4
  unfold xMet at hM
  rw [hret] at hM
  refine xcall_fin (k := n + 1) h1 h2 h3 h4 hS hL (va_runI (b := xad G t) (As := as.map (xv G)) ⟨C.1, C.2.1, C.2.2.1, C.2.2.2.1, hts⟩ hM (cwI n hts (xgood (fun w hw => ?_)) rfl rfl rfl (hts _ hw3) (hts _ hw1) (hts _ hw2) hnm hy ⟨by show d + 1 + 1 ≤ R.frames; omega, by show 8 + (_ + 11) + (64 * d + 64) ≤ R.locals; omega⟩) (xpre (as := .ref t :: as) C.2.2.2.2.2.1 hP hS) rfl (by simpa using hlen) hL.2.1 (by rw [hst]; simp [xv]) (lv_room (by rw [xv_cats G hF]; exact c2)) hd ⟨by omega, by omega⟩) kk
  rcases List.mem_cons.mp hw with rfl | hw
  · exact hw4
  · exact hw
theorem ok_callIN {idx n : Nat} (hd : decode cc pc = .ok (.invokespecial idx, 3)) (hw1 : (own, idx, (M mj).1) ∈ xnest) (hw2 : Cond.instanceMethod (M mj).1 ∈ XW) (hw3 : Cond.initialized (M mj).1.cls ∈ XW) (hw4 : Cond.code (M mj).1 (M mj).2.1 (M mj).2.2.1 (M mj).2.2.2 ∈ XW) (hnm : (M mj).1.name = "<init>") (hret : (M mj).2.2.2 = none)
    (hy : (M mj).1.cls ≠ "java/lang/invoke/MethodHandle" ∧ (M mj).1.cls ≠ "java/lang/invoke/VarHandle" ∧ (parseMethodDescriptor (M mj).1.desc).map (fun d => d.parameters.length) = some n) (hl : (M mj).2.2.1 ≤ 45) {ci : Nat} (hp : pcs.getD nx 0 = pc + 3) : xCk M own cc nL ini pcs pc (some ci, n + 1, mj, nx) := by
  intro G p l e R s m args below meth c d n0 s0 nF sF Q C ls st h r h' h1 h2 h3 h4 h5 h6 hc hM kk H locs a hP hS hL
  dsimp only at hc hM kk
  rw [hp] at kk
  obtain ⟨c1, c2, c3⟩ := xcok_of hc
  obtain ⟨t, as, fs, ha, -⟩ := c3 ci rfl
  have hF := C.2.2.2.2.2.1.2.2.2.2.2.2.2.2.2.2.2.1
  have hr := C.2.2.2.2.2.2.2
  have hts := C.2.2.2.2.1
  obtain ⟨-, -, k3, -⟩ := C.2.2.2.2.2.1
  have hlen : as.length = n := by
    have := congrArg List.length ha
    simp at this
    omega
  have hst := xstk (G := G) (st := st) (k := n + 1)
  rw [ha] at hM hst
  rw [hret] at hw4
  unfold xMet at hM
  rw [hret] at hM
  refine xcall_fin (k := n + 1) h1 h2 h3 h4 hS hL (va_runIN (b := xad G t) (As := as.map (xv G)) ⟨C.1, C.2.1, C.2.2.1, C.2.2.2.1, hts⟩ hM ⟨va_cnB n hts (xgood (fun w hw => ?_)) rfl rfl rfl (k3 _ hw1) (hts _ hw3) hy ⟨by show d + 1 + 1 ≤ R.frames; omega, by show 8 + (_ + 11) + (64 * d + 64) ≤ R.locals; omega⟩, hnm, hts _ hw2⟩ (xpre (as := .ref t :: as) C.2.2.2.2.2.1 hP hS) rfl (by simpa using hlen) hL.2.1 (by rw [hst]; simp [xv]) (lv_room (by rw [xv_cats G hF]; exact c2)) hd ⟨by omega, by omega⟩) kk
  rcases List.mem_cons.mp hw with rfl | hw
  · exact hw4
  · exact hw
theorem xrecv {h : XH} {H : Heap} {locs : List Loc} {t ci : Nat} {fs : List Value} {Cn : String} (hK : xK G s s.heap) (hP : xP G h H) (hS : va_S (xA G) s.heap H locs) (ht : h[t]? = some (.inl (ci, fs))) (hc : (¬ ci = 9 ∧ (vwCl[ci]?).map (fun q => q.1) = some Cn) ∨ (ci = 9 ∧ Cn = RJ0)) : ∃ cellB : Cell, H[xad G t]? = some cellB ∧ cellB.vm.isStatics = false ∧ s.vm.findClass Cn = some cellB.cls := by
  have hx := hP.2.2 t _ ht
  unfold xcell at hx
  dsimp only at hx
  rcases hc with ⟨h9, hc⟩ | ⟨rfl, rfl⟩
  · rw [if_neg h9] at hx
    obtain ⟨-, r, hr, -, cell, g1, g2, g3, -⟩ := hx
    rw [hr] at hc
    have hCn : r.1 = Cn := Option.some.inj hc
    refine ⟨cell, g1, by rw [g3]; rfl, ?_⟩
    rw [g2, ← hCn]
    exact (hK.1.1 ci r hr).2.1
  · rw [if_pos rfl] at hx
    obtain ⟨rfl, rfl⟩ := hx
    obtain ⟨-, -, -, -, -, k6, -⟩ := hK
    obtain ⟨cell, g1, g2, g3, -⟩ := k6.kept hS.2.1
    exact ⟨cell, g1, g2, g3⟩
/-- invokevirtual -/
theorem ok_callV {idx n ci : Nat} {Cn : String} (hd : decode cc pc = .ok (.invokevirtual idx, 3)) (hci : (¬ ci = 9 ∧ (vwCl[ci]?).map (fun q => q.1) = some Cn) ∨ (ci = 9 ∧ Cn = RJ0)) (hw1 : Cond.methodLink own idx (M mj).1 ∈ XW) (hw2 : Cond.instanceMethod (M mj).1 ∈ XW) (hw5 : Cond.selects Cn (M mj).1 (M mj).1 ∈ XW) (hw3 : Cond.initialized Cn ∈ XW) (hw4 : Cond.code (M mj).1 (M mj).2.1 (M mj).2.2.1 (M mj).2.2.2 ∈ XW)
    (hy : (M mj).1.cls = Cn ∧ (M mj).1.cls ≠ "java/lang/invoke/MethodHandle" ∧ (M mj).1.cls ≠ "java/lang/invoke/VarHandle" ∧ (parseMethodDescriptor (M mj).1.desc).map (fun d => d.parameters.length) = some n) (hl : (M mj).2.2.1 ≤ 45) (hp : pcs.getD nx 0 = pc + 3) : xCk M own cc nL ini pcs pc (some ci, n + 1, mj, nx) := by
  intro G p l e R s m args below meth c d n0 s0 nF sF Q C ls st h r h' h1 h2 h3 h4 h5 h6 hc hM kk H locs a hP hS hL
  dsimp only at hc hM kk
  rw [hp] at kk
  obtain ⟨c1, c2, c3⟩ := xcok_of hc
  obtain ⟨t, as, fs, ha, hft⟩ := c3 ci rfl
  have hF := C.2.2.2.2.2.1.2.2.2.2.2.2.2.2.2.2.2.1
  have hr := C.2.2.2.2.2.2.2
  have hts := C.2.2.2.2.1
  have hlen : as.length = n := by
    have := congrArg List.length ha
    simp at this
    omega
  have hst := xstk (G := G) (st := st) (k := n + 1)
  rw [ha] at hM hst
  have hpre := xpre (as := .ref t :: as) C.2.2.2.2.2.1 hP hS
  refine xcall_fin (k := n + 1) h1 h2 h3 h4 hS hL (va_runV (C := Cn) (b := xad G t) (As := as.map (xv G)) ⟨C.1, C.2.1, C.2.2.1, C.2.2.2.1, hts⟩ hM (cwV n hts (xgood (fun w hw => ?_)) rfl rfl rfl hy ⟨by show d + 1 + 1 ≤ R.frames; omega, by show 8 + (_ + 11) + (64 * d + 64) ≤ R.locals; omega⟩) ⟨hpre.1, xrecv C.2.2.2.2.2.1 hP hS hft hci, hpre.2⟩ rfl (by simpa using hlen) hL.2.1 (by rw [hst]; simp [xv]) (lv_room (by rw [xv_cats G hF]; exact c2)) hd ⟨by omega, by omega⟩) kk
  simp only [wsV, List.cons_append, List.nil_append, List.mem_cons] at hw
  rcases hw with rfl | rfl | rfl | rfl | rfl | hw
  · exact hw1
  · exact hw2
  · exact hw5
  · exact hw3
  · exact hw4
  · exact hw
end XC1
