/-! THE MACHINE'S CELLS in the heap. G: the classes' numbers and slots; the array classes; the first address of the run's own cells; the script, the text, its bytes; the value of a static that is only carried; the script's length and contents. -/
abbrev XG : Type := va_G × (Nat → ClassId) × Nat × Nat × Nat × Nat × Value × Nat × (Nat → Int32)
abbrev gD (G : XG) : va_G := G.1
abbrev gA (G : XG) : Nat → ClassId := G.2.1
abbrev gB (G : XG) : Nat := G.2.2.1
abbrev gb (G : XG) : Nat := G.2.2.2.1
abbrev gS (G : XG) : Nat := G.2.2.2.2.1
abbrev gV (G : XG) : Nat := G.2.2.2.2.2.1
abbrev gF (G : XG) : Value := G.2.2.2.2.2.2.1
abbrev gL (G : XG) : Nat := G.2.2.2.2.2.2.2.1
abbrev gX (G : XG) : Nat → Int32 := G.2.2.2.2.2.2.2.2
def xad (G : XG) (i : Nat) : Nat := if i = 0 then gb G else if i = 1 then gS G else if i = 2 then gV G else gB G + (i - 3)
def xv (G : XG) (v : Value) : Value := match v with
  | .int x => .int x
  | .ref i => .ref (xad G i)
  | .double _ => gF G
  | _ => .null
abbrev xA (G : XG) : Nat → Prop := fun q => gB G ≤ q
/-- the bytes of the one text -/
def xtx : List Int32 := [49, 48, 44, 49, 42, 48, 44, 51, 45, 49, 50, 44, 49, 59, 50, 48, 44, 42, 42, 42, 44, 48, 45, 55, 44, 50, 59, 53, 44, 48, 49, 42, 44, 54, 45, 54, 44, 51, 59, 51, 48, 44, 49, 42, 42, 44, 56, 45, 49, 53, 44, 52, 59]
def xtf : Nat → Int32 := fun j => xtx.getD j 0
def xcell (G : XG) (i : Nat) (c : XC) (H : Heap) : Prop := match c with
  | .inl (ci, fs) => if ci = 9 then i = 1 ∧ fs = [.ref 2, .int 0] else 3 ≤ i ∧ ∃ r : vw_C, vwCl[ci]? = some r ∧ fs.length = r.2.2 ∧ t_OB (xad G i) ((gD G).1 ci) r.2.2 ((gD G).2 ci) H (vp_V (fs.map (xv G)))
  | .inr (.inl (ty, n, f)) => if ty = 3 then i = 0 ∧ n = gL G ∧ f = gX G else if ty = 4 then i = 2 ∧ n = 53 ∧ f = xtf else 3 ≤ i ∧ H[xad G i]? = some (arrV (gA G ty) n (fun j => .int (f j)))
  | .inr (.inr vs) => 3 ≤ i ∧ H[xad G i]? = some (arrV (gA G 2) vs.length (fun j => xv G (vs.getD j .null)))
def xP (G : XG) (h : XH) (H : Heap) : Prop := 3 ≤ h.length ∧ H.size = gB G + (h.length - 3) ∧ ∀ (i : Nat) (c : XC), h[i]? = some c → xcell G i c H
def xsz (c : XC) : Nat := match c with
  | .inl o => o.2.length
  | .inr (.inl a) => a.2.1
  | .inr (.inr vs) => vs.length
def xsl (h : XH) : Nat := (h.map xsz).sum
theorem xad_ge {G : XG} {i : Nat} (h : 3 ≤ i) : xad G i = gB G + (i - 3) := by
  unfold xad
  rw [if_neg (by omega), if_neg (by omega), if_neg (by omega)]
theorem xad_inj {G : XG} {i j : Nat} (hi : 3 ≤ i) (hj : 3 ≤ j) (h : xad G i = xad G j) : i = j := by
  rw [xad_ge hi, xad_ge hj] at h
  omega
theorem xad_A {G : XG} {i : Nat} (h : 3 ≤ i) : xA G (xad G i) := by
  rw [xad_ge h]
  exact Nat.le_add_right _ _
theorem xv_cat (G : XG) (hF : (gF G).category = 1) (v : Value) : (xv G v).category = 1 := by
  cases v <;> first | exact hF | rfl
theorem xv_cats (G : XG) (hF : (gF G).category = 1) : ∀ st : List Value, ((st.map (xv G)).map fun v => v.category).sum = st.length
  | [] => rfl
  | v :: st => by
    have := xv_cats G hF st
    simp only [List.map_cons, List.sum_cons, List.length_cons, xv_cat G hF v]
    omega
/-- a cell that stays: its own heap cell is as it was -/
theorem xcell.kept {G : XG} {i : Nat} {c : XC} {H H1 : Heap} (h : xcell G i c H) (hq : 3 ≤ i → H1[xad G i]? = H[xad G i]?) : xcell G i c H1 := by
  match c, h with
  | .inl (ci, fs), h =>
    unfold xcell at h ⊢
    dsimp only at h ⊢
    by_cases h9 : ci = 9
    · rw [if_pos h9] at h ⊢; exact h
    · rw [if_neg h9] at h ⊢
      obtain ⟨h1, r, h2, h4, h3⟩ := h
      exact ⟨h1, r, h2, h4, h3.kept (hq h1)⟩
  | .inr (.inl (ty, n, f)), h =>
    unfold xcell at h ⊢
    dsimp only at h ⊢
    by_cases h3 : ty = 3
    · rw [if_pos h3] at h ⊢; exact h
    · rw [if_neg h3] at h ⊢
      by_cases h4 : ty = 4
      · rw [if_pos h4] at h ⊢; exact h
      · rw [if_neg h4] at h ⊢
        exact ⟨h.1, by rw [hq h.1]; exact h.2⟩
  | .inr (.inr vs), h =>
    unfold xcell at h ⊢
    dsimp only at h ⊢
    exact ⟨h.1, by rw [hq h.1]; exact h.2⟩
theorem xP.set {G : XG} {h : XH} {H H1 : Heap} {i : Nat} {c : XC} (hP : xP G h H) (hi : 3 ≤ i) (hl : i < h.length) (hc : xcell G i c H1) (hz : H1.size = H.size) (ho : ∀ q : Nat, q ≠ xad G i → H1[q]? = H[q]?) : xP G (h.set i c) H1 := by
  refine ⟨by simpa using hP.1, by rw [hz, hP.2.1]; simp, fun j c' hj => ?_⟩
  by_cases hij : j = i
  · subst hij
    rw [List.getElem?_set_self hl] at hj
    cases hj
    exact hc
  · rw [List.getElem?_set_ne (Ne.symm hij)] at hj
    exact (hP.2.2 j c' hj).kept (fun h3 => ho _ (fun e => hij (xad_inj h3 hi e)))
theorem xP.push {G : XG} {h : XH} {H H1 : Heap} {c : XC} (hP : xP G h H) (hc : xcell G h.length c H1) (hz : H1.size = H.size + 1) (ho : ∀ q : Nat, q < H.size → H1[q]? = H[q]?) : xP G (h ++ [c]) H1 := by
  have h3 := hP.1
  refine ⟨by simp; omega, by rw [hz, hP.2.1]; simp; omega, fun j c' hj => ?_⟩
  by_cases hl : j < h.length
  · rw [List.getElem?_append_left hl] at hj
    exact (hP.2.2 j c' hj).kept (fun g3 => ho _ (by rw [xad_ge g3, hP.2.1]; omega))
  · rw [List.getElem?_append_right (by omega)] at hj
    have hz1 : j - h.length < 1 := (List.getElem?_eq_some_iff.mp hj).1
    have hj0 : j = h.length := by omega
    subst hj0
    rw [Nat.sub_self] at hj
    cases hj
    exact hc
theorem xP.next {G : XG} {h : XH} {H : Heap} (hP : xP G h H) : xad G h.length = H.size := by
  rw [xad_ge hP.1, hP.2.1]
theorem xsl_set {h : XH} {i : Nat} {c c' : XC} (hi : h[i]? = some c) (hs : xsz c' = xsz c) : xsl (h.set i c') = xsl h := by
  unfold xsl
  rw [List.map_set, hs]
  congr 1
  apply List.ext_getElem?
  intro j
  by_cases hj : j = i
  · subst hj
    have hl := (List.getElem?_eq_some_iff.mp hi).1
    rw [List.getElem?_set_self (by simpa using hl), List.getElem?_map, hi]
    rfl
  · rw [List.getElem?_set_ne (Ne.symm hj)]
theorem xsl_push (h : XH) (c : XC) : xsl (h ++ [c]) = xsl h + xsz c := by
  unfold xsl
  simp
/-- the words that a method is given: those of the tables that last -/
def XW : List Cond := lw_tbl.filter goodWord
theorem xw_in {w : Cond} (i : Nat) (h : lw_tbl[i]? = some w) (hg : goodWord w = true) : w ∈ XW := List.mem_filter.mpr ⟨List.mem_of_getElem? h, hg⟩
theorem xw_good : ∀ w ∈ XW, goodWord w = true := fun _ h => (List.mem_filter.mp h).2
/-- the links to private members of nest mates -/
def xnest : List (String × Nat × MethodName) := [(RX7, 11, yX6_init), (RX7, 18, yX4_init), (RX7, 25, yX0_init), (RX0, 11, yX3_init), (RX7, 35, yX1_init), (RX2, 24, yX0_init), (RX4, 41, yX7_isSpan), (RX3, 54, yX7_rowsOfSpan), (RX0, 50, yX7_pieceSize), (RX0, 81, yX7_isSlot)]
abbrev xtys (G : XG) : List (ClassId × FieldType) := [(gA G 0, .int), (gA G 1, .boolean), (gA G 2, .object RX0)]
/-- what holds of the machine at a state, beside the cells: nothing of it changes -/
def xK (G : XG) (U : State) (H : Heap) : Prop :=
  va_K (gD G) vwCl (xtys G) U ∧ va_AO RX0 U ∧ (∀ q ∈ xnest, va_Nw (.methodLinkNest q.1 q.2.1 q.2.2 RX7) U) ∧
  vk_R RX7 50 "10,1*0,3-12,1;20,***,0-7,2;5,01*,6-6,3;30,1**,8-15,4;" (gS G) U ∧
  va_T .int (gb G) (gL G) (fun j => .int (gX G j)) (xA G) U H ∧
  va_O RJ0 (gS G) (xA G) U H ∧ va_OF RJ0 "coder" "B" (.int 0) (gS G) (xA G) U H ∧ va_OF RJ0 "value" "[B" (.ref (gV G)) (gS G) (xA G) U H ∧ va_T .byte (gV G) 53 (fun j => .int (xtf j)) (xA G) U H ∧
  va_Z RJ0 "COMPACT_STRINGS" "Z" (.int 1) (xA G) U H ∧ va_Z RJ3 "SIOOBE_FORMATTER" "Ljava/util/function/BiFunction;" (gF G) (xA G) U H ∧
  (gF G).category = 1 ∧ gL G < 2 ^ 31 ∧ gB G ≤ H.size
theorem xK.moved {G : XG} {s U : State} {H H1 : Heap} (h : xK G s H) (hW : s.WarmedH U.vm) (hz : H.size ≤ H1.size) (hq : ∀ a : Nat, a < H.size → ¬ xA G a → H1[a]? = H[a]?) : xK G U H1 := by
  obtain ⟨h1, h2, h3, h4, h5, h6, h7, h8, h9, h10, h11, h12, h13, h14⟩ := h
  have hal := hW.alike
  exact ⟨va_K.moved hal h1, va_AO.moved hal h2, fun q hq => va_Nw.warmM hW (h3 q hq), vk_R.warm hW h4, (va_T.moved hal h5).kept hq, (va_O.moved hal h6).kept hq, (va_OF.moved hal h7).kept hq, (va_OF.moved hal h8).kept hq, (va_T.moved hal h9).kept hq, (va_Z.moved hal h10).kept hq, (va_Z.moved hal h11).kept hq, h12, h13, Nat.le_trans h14 hz⟩
theorem xK.blind {G : XG} {U : State} {g : JFrame} {mk : MethodId} {a : Array Value} (h : xK G U U.heap) : xK G (U.calling g mk a) (U.calling g mk a).heap := by
  obtain ⟨h1, h2, h3, h4, h5, h6, h7, h8, h9, h10, h11, h12, h13, h14⟩ := h
  have hv : (U.calling g mk a).vm = U.vm := rfl
  have hal : U.vm.Alike (U.calling g mk a).vm := Vm.Alike.refl U.vm
  exact ⟨va_K.moved hal h1, va_AO.moved hal h2, fun q hq => va_Nw.same rfl hv.symm (h3 q hq), vk_R.same hv h4, va_T.moved hal h5, va_O.moved hal h6, va_OF.moved hal h7, va_OF.moved hal h8, va_T.moved hal h9, va_Z.moved hal h10, va_Z.moved hal h11, h12, h13, h14⟩
/-- the locals -/
def xL (G : XG) (ls : List Value) (a : Array Slot) (nL : Nat) : Prop := ls.length = nL ∧ a.size = nL ∧ lv_wf a ∧ ∀ (i : Nat) (v : Value), ls[i]? = some v → v ≠ .null → a[i]? = some (.val (xv G v))
def xlv (G : XG) (ls : List Value) : List (Nat × Value) := (List.range ls.length).filterMap fun (i : Nat) => match (ls[i]? : Option Value) with
  | some Value.null => none
  | some v => some (i, xv G v)
  | none => none
theorem xlv_mem {G : XG} {ls : List Value} {i : Nat} {v : Value} (h : ls[i]? = some v) (hn : v ≠ .null) : (i, xv G v) ∈ xlv G ls := by
  unfold xlv
  refine List.mem_filterMap.mpr ⟨i, List.mem_range.mpr (List.getElem?_eq_some_iff.mp h).1, ?_⟩
  rw [h]
  cases v <;> first | rfl | exact absurd rfl hn
theorem xlv_of {G : XG} {ls : List Value} {q : Nat × Value} (h : q ∈ xlv G ls) : ∃ v, ls[q.1]? = some v ∧ v ≠ .null ∧ q.2 = xv G v := by
  unfold xlv at h
  obtain ⟨i, -, hi⟩ := List.mem_filterMap.mp h
  cases hv : ls[i]? with
  | none => rw [hv] at hi; cases hi
  | some v =>
    rw [hv] at hi
    cases v <;> first | (cases hi; done) | (cases hi; exact ⟨_, hv, (fun e => by cases e), rfl⟩)
theorem xL.has {G : XG} {ls : List Value} {a : Array Slot} {nL : Nat} (h : xL G ls a nL) : lv_has a nL (xlv G ls) := by
  refine ⟨h.2.1, h.2.2.1, fun q hq => ?_⟩
  obtain ⟨v, h1, h2, h3⟩ := xlv_of hq
  rw [h3]
  exact h.2.2.2 q.1 v h1 h2
theorem xL.set {G : XG} {ls : List Value} {a a' : Array Slot} {nL i : Nat} {x : Value} (hF : (gF G).category = 1) (h : xL G ls a nL) (h' : lv_has a' nL ((i, xv G x) :: (xlv G ls).filter (fun q => !(q.1 == i) && !(q.1 + 1 == i && q.2.category == 2)))) : xL G (ls.set i x) a' nL := by
  refine ⟨by simpa using h.1, h'.1, h'.2.1, fun j v hj hn => ?_⟩
  by_cases hij : j = i
  · subst hij
    have hl : j < ls.length := by
      have := (List.getElem?_eq_some_iff.mp hj).1
      simpa using this
    rw [List.getElem?_set_self hl] at hj
    cases hj
    exact h'.2.2 (j, xv G x) List.mem_cons_self
  · rw [List.getElem?_set_ne (Ne.symm hij)] at hj
    refine h'.2.2 (j, xv G v) (List.mem_cons_of_mem _ (List.mem_filter.mpr ⟨xlv_mem hj hn, ?_⟩))
    have hc := xv_cat G hF v
    simp [hij, hc]
