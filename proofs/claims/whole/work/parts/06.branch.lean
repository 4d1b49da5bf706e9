/-! OPERATIONS, continued: branches, switches, the ends -/
section XS2
variable {own : String} {cc : ByteArray} {nL : Nat} {ini : Prop} {rk : Int32 → Bool} {pcs : List Nat} {pc nx tg : Nat}
def o_if (g : Int32 → Bool) (tg nx : Nat) : XF := fun ls st h => match st with
  | .int x :: st' => some (.inl (if g x = true then tg else nx, ls, st', h))
  | _ => none
theorem o_if_of {g : Int32 → Bool} {ls st : List Value} {h : XH} {x : XS ⊕ XR} (hx : o_if g tg nx ls st h = some x) : ∃ a st', st = .int a :: st' ∧ x = .inl (if g a = true then tg else nx, ls, st', h) := by
  unfold o_if at hx
  split at hx
  · next a st' => cases hx; exact ⟨a, st', rfl, rfl⟩
  · cases hx
def o_icmp (g : Int32 → Int32 → Bool) (tg nx : Nat) : XF := fun ls st h => match st with
  | .int y :: .int x :: st' => some (.inl (if g x y = true then tg else nx, ls, st', h))
  | _ => none
theorem o_icmp_of {g : Int32 → Int32 → Bool} {ls st : List Value} {h : XH} {x : XS ⊕ XR} (hx : o_icmp g tg nx ls st h = some x) : ∃ a b st', st = .int b :: .int a :: st' ∧ x = .inl (if g a b = true then tg else nx, ls, st', h) := by
  unfold o_icmp at hx
  split at hx
  · next b a st' => cases hx; exact ⟨a, b, st', rfl, rfl⟩
  · cases hx
def c_eq (x : Int32) : Bool := decide (x = 0)
def d_eq (x y : Int32) : Bool := decide (x = y)
theorem ok_if_eq {off : Int} (hd : decode cc pc = .ok (.ifCond .eq off, 3)) (ht : (pc : Int) + off = ((pcs.getD tg 0 : Nat) : Int)) (hp : pcs.getD nx 0 = pc + 3) : xOk own cc nL ini rk pcs pc (o_if c_eq tg nx) := by
  refine xok_pure (fun ls st h x hx => ?_)
  obtain ⟨u, st', rfl, rfl⟩ := o_if_of hx
  refine ⟨_, _, _, rfl, fun G p l e R s m args below meth c d n0 s0 nF sF Q C k H locs a hP hS hL => ?_⟩
  refine lv_if_eq C.1 C.2.1 hd ht (fun q => ?_) (fun q => ?_)
  · rw [if_pos (by unfold c_eq; exact decide_eq_true q)] at k
    exact k H locs a hP hS hL
  · have hq : ¬ c_eq u = true := by unfold c_eq; simpa using q
    rw [if_neg hq, hp] at k
    exact k H locs a hP hS hL
theorem ok_icmp_eq {off : Int} (hd : decode cc pc = .ok (.if_icmp .eq off, 3)) (ht : (pc : Int) + off = ((pcs.getD tg 0 : Nat) : Int)) (hp : pcs.getD nx 0 = pc + 3) : xOk own cc nL ini rk pcs pc (o_icmp d_eq tg nx) := by
  refine xok_pure (fun ls st h x hx => ?_)
  obtain ⟨u, w, st', rfl, rfl⟩ := o_icmp_of hx
  refine ⟨_, _, _, rfl, fun G p l e R s m args below meth c d n0 s0 nF sF Q C k H locs a hP hS hL => ?_⟩
  refine lv_icmp_eq C.1 C.2.1 hd ht (fun q => ?_) (fun q => ?_)
  · rw [if_pos (by unfold d_eq; exact decide_eq_true q)] at k
    exact k H locs a hP hS hL
  · have hq : ¬ d_eq u w = true := by unfold d_eq; simpa using q
    rw [if_neg hq, hp] at k
    exact k H locs a hP hS hL
def c_ne (x : Int32) : Bool := decide (¬ x = 0)
def d_ne (x y : Int32) : Bool := decide (¬ x = y)
theorem ok_if_ne {off : Int} (hd : decode cc pc = .ok (.ifCond .ne off, 3)) (ht : (pc : Int) + off = ((pcs.getD tg 0 : Nat) : Int)) (hp : pcs.getD nx 0 = pc + 3) : xOk own cc nL ini rk pcs pc (o_if c_ne tg nx) := by
  refine xok_pure (fun ls st h x hx => ?_)
  obtain ⟨u, st', rfl, rfl⟩ := o_if_of hx
  refine ⟨_, _, _, rfl, fun G p l e R s m args below meth c d n0 s0 nF sF Q C k H locs a hP hS hL => ?_⟩
  refine lv_if_ne C.1 C.2.1 hd ht (fun q => ?_) (fun q => ?_)
  · rw [if_pos (by unfold c_ne; exact decide_eq_true q)] at k
    exact k H locs a hP hS hL
  · have hq : ¬ c_ne u = true := by unfold c_ne; simp [q]
    rw [if_neg hq, hp] at k
    exact k H locs a hP hS hL
theorem ok_icmp_ne {off : Int} (hd : decode cc pc = .ok (.if_icmp .ne off, 3)) (ht : (pc : Int) + off = ((pcs.getD tg 0 : Nat) : Int)) (hp : pcs.getD nx 0 = pc + 3) : xOk own cc nL ini rk pcs pc (o_icmp d_ne tg nx) := by
  refine xok_pure (fun ls st h x hx => ?_)
  obtain ⟨u, w, st', rfl, rfl⟩ := o_icmp_of hx
  refine ⟨_, _, _, rfl, fun G p l e R s m args below meth c d n0 s0 nF sF Q C k H locs a hP hS hL => ?_⟩
  refine lv_icmp_ne C.1 C.2.1 hd ht (fun q => ?_) (fun q => ?_)
  · rw [if_pos (by unfold d_ne; exact decide_eq_true q)] at k
    exact k H locs a hP hS hL
  · have hq : ¬ d_ne u w = true := by unfold d_ne; simp [q]
    rw [if_neg hq, hp] at k
    exact k H locs a hP hS hL
def c_lt (x : Int32) : Bool := decide (x < 0)
def d_lt (x y : Int32) : Bool := decide (x < y)
theorem ok_if_lt {off : Int} (hd : decode cc pc = .ok (.ifCond .lt off, 3)) (ht : (pc : Int) + off = ((pcs.getD tg 0 : Nat) : Int)) (hp : pcs.getD nx 0 = pc + 3) : xOk own cc nL ini rk pcs pc (o_if c_lt tg nx) := by
  refine xok_pure (fun ls st h x hx => ?_)
  obtain ⟨u, st', rfl, rfl⟩ := o_if_of hx
  refine ⟨_, _, _, rfl, fun G p l e R s m args below meth c d n0 s0 nF sF Q C k H locs a hP hS hL => ?_⟩
  refine lv_if_lt C.1 C.2.1 hd ht (fun q => ?_) (fun q => ?_)
  · rw [if_pos (by unfold c_lt; exact decide_eq_true q)] at k
    exact k H locs a hP hS hL
  · have hq : ¬ c_lt u = true := by unfold c_lt; simpa using q
    rw [if_neg hq, hp] at k
    exact k H locs a hP hS hL
theorem ok_icmp_lt {off : Int} (hd : decode cc pc = .ok (.if_icmp .lt off, 3)) (ht : (pc : Int) + off = ((pcs.getD tg 0 : Nat) : Int)) (hp : pcs.getD nx 0 = pc + 3) : xOk own cc nL ini rk pcs pc (o_icmp d_lt tg nx) := by
  refine xok_pure (fun ls st h x hx => ?_)
  obtain ⟨u, w, st', rfl, rfl⟩ := o_icmp_of hx
  refine ⟨_, _, _, rfl, fun G p l e R s m args below meth c d n0 s0 nF sF Q C k H locs a hP hS hL => ?_⟩
  refine lv_icmp_lt C.1 C.2.1 hd ht (fun q => ?_) (fun q => ?_)
  · rw [if_pos (by unfold d_lt; exact decide_eq_true q)] at k
    exact k H locs a hP hS hL
  · have hq : ¬ d_lt u w = true := by unfold d_lt; simpa using q
    rw [if_neg hq, hp] at k
    exact k H locs a hP hS hL
def c_ge (x : Int32) : Bool := decide (0 ≤ x)
def d_ge (x y : Int32) : Bool := decide (y ≤ x)
theorem ok_if_ge {off : Int} (hd : decode cc pc = .ok (.ifCond .ge off, 3)) (ht : (pc : Int) + off = ((pcs.getD tg 0 : Nat) : Int)) (hp : pcs.getD nx 0 = pc + 3) : xOk own cc nL ini rk pcs pc (o_if c_ge tg nx) := by
  refine xok_pure (fun ls st h x hx => ?_)
  obtain ⟨u, st', rfl, rfl⟩ := o_if_of hx
  refine ⟨_, _, _, rfl, fun G p l e R s m args below meth c d n0 s0 nF sF Q C k H locs a hP hS hL => ?_⟩
  refine lv_if_ge C.1 C.2.1 hd ht (fun q => ?_) (fun q => ?_)
  · rw [if_pos (by unfold c_ge; exact decide_eq_true q)] at k
    exact k H locs a hP hS hL
  · have hq : ¬ c_ge u = true := by unfold c_ge; simpa using q
    rw [if_neg hq, hp] at k
    exact k H locs a hP hS hL
theorem ok_icmp_ge {off : Int} (hd : decode cc pc = .ok (.if_icmp .ge off, 3)) (ht : (pc : Int) + off = ((pcs.getD tg 0 : Nat) : Int)) (hp : pcs.getD nx 0 = pc + 3) : xOk own cc nL ini rk pcs pc (o_icmp d_ge tg nx) := by
  refine xok_pure (fun ls st h x hx => ?_)
  obtain ⟨u, w, st', rfl, rfl⟩ := o_icmp_of hx
  refine ⟨_, _, _, rfl, fun G p l e R s m args below meth c d n0 s0 nF sF Q C k H locs a hP hS hL => ?_⟩
  refine lv_icmp_ge C.1 C.2.1 hd ht (fun q => ?_) (fun q => ?_)
  · rw [if_pos (by unfold d_ge; exact decide_eq_true q)] at k
    exact k H locs a hP hS hL
  · have hq : ¬ d_ge u w = true := by unfold d_ge; simpa using q
    rw [if_neg hq, hp] at k
    exact k H locs a hP hS hL
def c_gt (x : Int32) : Bool := decide (0 < x)
def d_gt (x y : Int32) : Bool := decide (y < x)
theorem ok_if_gt {off : Int} (hd : decode cc pc = .ok (.ifCond .gt off, 3)) (ht : (pc : Int) + off = ((pcs.getD tg 0 : Nat) : Int)) (hp : pcs.getD nx 0 = pc + 3) : xOk own cc nL ini rk pcs pc (o_if c_gt tg nx) := by
  refine xok_pure (fun ls st h x hx => ?_)
  obtain ⟨u, st', rfl, rfl⟩ := o_if_of hx
  refine ⟨_, _, _, rfl, fun G p l e R s m args below meth c d n0 s0 nF sF Q C k H locs a hP hS hL => ?_⟩
  refine lv_if_gt C.1 C.2.1 hd ht (fun q => ?_) (fun q => ?_)
  · rw [if_pos (by unfold c_gt; exact decide_eq_true q)] at k
    exact k H locs a hP hS hL
  · have hq : ¬ c_gt u = true := by unfold c_gt; simpa using q
    rw [if_neg hq, hp] at k
    exact k H locs a hP hS hL
theorem ok_icmp_gt {off : Int} (hd : decode cc pc = .ok (.if_icmp .gt off, 3)) (ht : (pc : Int) + off = ((pcs.getD tg 0 : Nat) : Int)) (hp : pcs.getD nx 0 = pc + 3) : xOk own cc nL ini rk pcs pc (o_icmp d_gt tg nx) := by
  refine xok_pure (fun ls st h x hx => ?_)
  obtain ⟨u, w, st', rfl, rfl⟩ := o_icmp_of hx
  refine ⟨_, _, _, rfl, fun G p l e R s m args below meth c d n0 s0 nF sF Q C k H locs a hP hS hL => ?_⟩
  refine lv_icmp_gt C.1 C.2.1 hd ht (fun q => ?_) (fun q => ?_)
  · rw [if_pos (by unfold d_gt; exact decide_eq_true q)] at k
    exact k H locs a hP hS hL
  · have hq : ¬ d_gt u w = true := by unfold d_gt; simpa using q
    rw [if_neg hq, hp] at k
    exact k H locs a hP hS hL
def c_le (x : Int32) : Bool := decide (x ≤ 0)
def d_le (x y : Int32) : Bool := decide (x ≤ y)
theorem ok_if_le {off : Int} (hd : decode cc pc = .ok (.ifCond .le off, 3)) (ht : (pc : Int) + off = ((pcs.getD tg 0 : Nat) : Int)) (hp : pcs.getD nx 0 = pc + 3) : xOk own cc nL ini rk pcs pc (o_if c_le tg nx) := by
  refine xok_pure (fun ls st h x hx => ?_)
  obtain ⟨u, st', rfl, rfl⟩ := o_if_of hx
  refine ⟨_, _, _, rfl, fun G p l e R s m args below meth c d n0 s0 nF sF Q C k H locs a hP hS hL => ?_⟩
  refine lv_if_le C.1 C.2.1 hd ht (fun q => ?_) (fun q => ?_)
  · rw [if_pos (by unfold c_le; exact decide_eq_true q)] at k
    exact k H locs a hP hS hL
  · have hq : ¬ c_le u = true := by unfold c_le; simpa using q
    rw [if_neg hq, hp] at k
    exact k H locs a hP hS hL
theorem ok_icmp_le {off : Int} (hd : decode cc pc = .ok (.if_icmp .le off, 3)) (ht : (pc : Int) + off = ((pcs.getD tg 0 : Nat) : Int)) (hp : pcs.getD nx 0 = pc + 3) : xOk own cc nL ini rk pcs pc (o_icmp d_le tg nx) := by
  refine xok_pure (fun ls st h x hx => ?_)
  obtain ⟨u, w, st', rfl, rfl⟩ := o_icmp_of hx
  refine ⟨_, _, _, rfl, fun G p l e R s m args below meth c d n0 s0 nF sF Q C k H locs a hP hS hL => ?_⟩
  refine lv_icmp_le C.1 C.2.1 hd ht (fun q => ?_) (fun q => ?_)
  · rw [if_pos (by unfold d_le; exact decide_eq_true q)] at k
    exact k H locs a hP hS hL
  · have hq : ¬ d_le u w = true := by unfold d_le; simpa using q
    rw [if_neg hq, hp] at k
    exact k H locs a hP hS hL
def o_tsw (lo : Int) (tgs : List Nat) (df : Nat) : XF := fun ls st h => match st with
  | .int x :: st' => some (.inl (if x.toInt < lo then df else tgs.getD (x.toInt - lo).toNat df, ls, st', h))
  | _ => none
theorem ok_tsw {df lo hi : Int} {offs : Array Int} {len d0 : Nat} {tgs : List Nat} (hd : decode cc pc = .ok (.tableswitch df lo hi offs, len)) (hn : (tgs.length : Int) = hi - lo + 1) (hm : offs.toList.map (fun o => (pc : Int) + o) = tgs.map (fun t => ((pcs.getD t 0 : Nat) : Int))) (hdf : (pc : Int) + df = ((pcs.getD d0 0 : Nat) : Int)) : xOk own cc nL ini rk pcs pc (o_tsw lo tgs d0) := by
  have ht : ∀ j, j < tgs.length → ∃ o, offs[j]? = some o ∧ (pc : Int) + o = ((pcs.getD (tgs.getD j d0) 0 : Nat) : Int) := by
    intro j hj
    have h1 := congrArg (fun l => l[j]?) hm
    simp only [List.getElem?_map] at h1
    rw [List.getElem?_eq_getElem hj] at h1
    rw [← Array.getElem?_toList]
    cases ho : offs.toList[j]? with
    | none => rw [ho] at h1; simp at h1
    | some o =>
      rw [ho] at h1
      refine ⟨o, rfl, ?_⟩
      rw [List.getD_eq_getElem?_getD (l := tgs), List.getElem?_eq_getElem hj]
      simpa using h1
  refine xok_pure (fun ls st h x hx => ?_)
  unfold o_tsw at hx
  split at hx
  · next u st' =>
    cases hx
    refine ⟨_, _, _, rfl, fun G p l e R s m args below meth c d n0 s0 nF sF Q C k H locs a hP hS hL => ?_⟩
    by_cases h1 : u.toInt < lo
    · rw [if_pos h1] at k
      exact lv_tableOut C.1 C.2.1 hd (Or.inl h1) hdf (k H locs a hP hS hL)
    · rw [if_neg h1] at k
      by_cases h2 : hi < u.toInt
      · have hge : tgs.length ≤ (u.toInt - lo).toNat := by omega
        have hg : tgs.getD (u.toInt - lo).toNat d0 = d0 := by rw [List.getD_eq_getElem?_getD, List.getElem?_eq_none hge]; rfl
        rw [hg] at k
        exact lv_tableOut C.1 C.2.1 hd (Or.inr h2) hdf (k H locs a hP hS hL)
      · obtain ⟨o, ho, he⟩ := ht (u.toInt - lo).toNat (by omega)
        exact lv_tableIn C.1 C.2.1 hd h1 h2 ho he (k H locs a hP hS hL)
  · cases hx
/-- where a switch over single numbers goes -/
def xlk (ps : List (Int × Nat)) (df : Nat) (x : Int) : Nat := match ps with
  | [] => df
  | q :: r => if x = q.1 then q.2 else xlk r df x
def o_lsw (ps : List (Int × Nat)) (df : Nat) : XF := fun ls st h => match st with
  | .int x :: st' => some (.inl (xlk ps df x.toInt, ls, st', h))
  | _ => none
theorem xlk_off (pcs : List Nat) (pc d0 : Nat) (df : Int) (hdf : (pc : Int) + df = ((pcs.getD d0 0 : Nat) : Int)) (x : Int) : ∀ (ps : List (Int × Nat)) (os : List (Int × Int)), ps.map (fun q => (q.1, ((pcs.getD q.2 0 : Nat) : Int))) = os.map (fun q => (q.1, (pc : Int) + q.2)) → (pc : Int) + Op.lookupswitch.offset os df x = ((pcs.getD (xlk ps d0 x) 0 : Nat) : Int)
  | [], [], _ => hdf
  | [], _ :: _, h => by simp at h
  | _ :: _, [], h => by simp at h
  | q :: r, o :: os, h => by
    simp only [List.map_cons, List.cons.injEq, Prod.mk.injEq] at h
    obtain ⟨⟨h1, h2⟩, h3⟩ := h
    obtain ⟨o1, o2⟩ := o
    rw [Op.lookupswitch.offset_cons]
    unfold xlk
    dsimp only at h1 h2 ⊢
    by_cases hx : x = q.1
    · rw [if_pos hx, if_pos (by rw [hx, h1])]
      exact h2.symm
    · rw [if_neg hx, if_neg (fun z => hx (by first | exact z.trans h1.symm | exact z.symm.trans h1.symm | (rw [h1]; exact z.symm) | (rw [h1]; exact z)))]
      exact xlk_off pcs pc d0 df hdf x r os h3
theorem ok_lsw {df : Int} {os : Array (Int × Int)} {len d0 : Nat} {ps : List (Int × Nat)} (hd : decode cc pc = .ok (.lookupswitch df os, len)) (ho : (os.toList.zip (os.toList.drop 1)).all (fun (a, next) => a.1 < next.1) = true) (hm : ps.map (fun q => (q.1, ((pcs.getD q.2 0 : Nat) : Int))) = os.toList.map (fun q => (q.1, (pc : Int) + q.2))) (hdf : (pc : Int) + df = ((pcs.getD d0 0 : Nat) : Int)) : xOk own cc nL ini rk pcs pc (o_lsw ps d0) := by
  refine xok_pure (fun ls st h x hx => ?_)
  unfold o_lsw at hx
  split at hx
  · next u st' =>
    cases hx
    refine ⟨_, _, _, rfl, fun G p l e R s m args below meth c d n0 s0 nF sF Q C k H locs a hP hS hL => ?_⟩
    exact lv_lookup C.1 C.2.1 hd ho rfl (xlk_off pcs pc d0 df hdf u.toInt ps os.toList hm) (k H locs a hP hS hL)
  · cases hx
def o_iret (rk : Int32 → Bool) : XF := fun _ st h => match st with
  | [.int x] => if rk x = true then some (.inr (some (.int x), h)) else none
  | _ => none
theorem ok_iret (hd : decode cc pc = .ok (.ireturn, 1)) : xOk own cc nL ini rk pcs pc (o_iret rk) := by
  have key : ∀ (ls st : List Value) (h : XH) (x : XS ⊕ XR), o_iret rk ls st h = some x → ∃ z, st = [.int z] ∧ rk z = true ∧ x = .inr (some (.int z), h) := by
    intro ls st h x hx
    unfold o_iret at hx
    split at hx
    · next z =>
      split at hx
      · next hz => cases hx; exact ⟨z, rfl, hz, rfl⟩
      · cases hx
    · cases hx
  refine ⟨fun ls st h x hx => ?_, fun G p l e R s m args below meth c d n0 s0 nF sF Q C ls st h hn hs => ⟨fun i' ls' st' h' hx _ _ k => ?_, fun v h' hx hf H locs a hP hS hL => ?_⟩⟩
  · obtain ⟨z, rfl, hz, rfl⟩ := key ls st h x hx
    rfl
  · obtain ⟨z, -, -, e1⟩ := key ls st h _ hx
    cases e1
  · obtain ⟨z, rfl, hz, e1⟩ := key ls st h _ hx
    cases e1
    exact (hf H locs a pc hP hS).1 z rfl hz hd
def o_vret : XF := fun _ st h => match st with
  | [] => some (.inr (none, h))
  | _ => none
theorem ok_vret (hd : decode cc pc = .ok (.return_, 1)) (hk : ∀ x, rk x = false) : xOk own cc nL ini rk pcs pc o_vret := by
  have key : ∀ (ls st : List Value) (h : XH) (x : XS ⊕ XR), o_vret ls st h = some x → st = [] ∧ x = .inr (none, h) := by
    intro ls st h x hx
    unfold o_vret at hx
    split at hx
    · cases hx; exact ⟨rfl, rfl⟩
    · cases hx
  refine ⟨fun ls st h x hx => ?_, fun G p l e R s m args below meth c d n0 s0 nF sF Q C ls st h hn hs => ⟨fun i' ls' st' h' hx _ _ k => ?_, fun v h' hx hf H locs a hP hS hL => ?_⟩⟩
  · obtain ⟨rfl, rfl⟩ := key ls st h x hx
    rfl
  · obtain ⟨-, e1⟩ := key ls st h _ hx
    cases e1
  · obtain ⟨rfl, e1⟩ := key ls st h _ hx
    cases e1
    exact (hf H locs a pc hP hS).2 rfl hk hd
end XS2
