/-! THE TRUTH of the small machine -/
/-- one instruction of a method, right -/
def xIn (M : XMt) (pcs : Nat → List Nat) (m i : Nat) (o : XO) : Prop := match o with
  | .inl f => xOk (M m).1.cls (M m).2.1 (M m).2.2.1 ((M m).1.name = "<init>") (rkOf (M m).2.2.2) (pcs m) ((pcs m).getD i 0) f
  | .inr q => xCk M (M m).1.cls (M m).2.1 (M m).2.2.1 ((M m).1.name = "<init>") (pcs m) ((pcs m).getD i 0) q ∧ q.2.1 ≤ (M q.2.2.1).2.2.1 ∧ plainFor (M q.2.2.1).1 = true
/-- the whole program, right -/
def xAll (M : XMt) (P : XPr) (pcs : Nat → List Nat) : Prop := ∀ m, (P m).1 = (M m).2.2.1 ∧ (pcs m).getD 0 0 = 0 ∧ ∀ (i : Nat) (o : XO), (P m).2[i]? = some o → xIn M pcs m i o
theorem xgrow {M : XMt} {P : XPr} {pcs : Nat → List Nat} (hA : xAll M P pcs) : ∀ (n d m : Nat) (s : XS) (r : XR), xrun P n d m s = some r → s.2.2.2.length ≤ r.2.length ∧ xsl s.2.2.2 ≤ xsl r.2 := by
  intro n
  induction n with
  | zero => intro d m s r h; simp [xrun] at h
  | succ n ih =>
    intro d m s r h
    obtain ⟨i, ls, st, hp⟩ := s
    rw [xrun] at h
    cases ho : (P m).2[i]? with
    | none => rw [ho] at h; simp at h
    | some o =>
      rw [ho] at h
      have hI := (hA m).2.2 i o ho
      cases o with
      | inl f =>
        dsimp only at h
        cases hf : f ls st hp with
        | none => rw [hf] at h; simp at h
        | some x =>
          rw [hf] at h
          have hg := hI.1 ls st hp x hf
          cases x with
          | inl s =>
            have h2 := ih d m s r h
            exact ⟨Nat.le_trans hg.1 h2.1, Nat.le_trans hg.2 h2.2⟩
          | inr r' =>
            cases h
            have hg : r.2 = hp := hg
            rw [hg]
            exact ⟨Nat.le_refl _, Nat.le_refl _⟩
      | inr c =>
        obtain ⟨rc, k, mj, nx⟩ := c
        dsimp only at h
        cases d with
        | zero => simp at h
        | succ d' =>
          dsimp only at h
          by_cases hc : xcok rc k st hp = true
          · rw [if_pos hc] at h
            cases hr : xrun P n d' mj (xent P mj (st.take k).reverse hp) with
            | none => rw [hr] at h; simp at h
            | some y =>
              rw [hr] at h
              obtain ⟨v, h'⟩ := y
              have h1 := ih _ _ _ _ hr
              have h2 := ih _ _ _ _ h
              exact ⟨Nat.le_trans h1.1 h2.1, Nat.le_trans h1.2 h2.2⟩
          · rw [if_neg hc] at h; simp at h
theorem xL_entry {G : XG} (hF : (gF G).category = 1) (as : List Value) (nL : Nat) (hl : as.length ≤ nL) : xL G (as ++ List.replicate (nL - as.length) .null) (((as.map (xv G)).map Slot.val ++ List.replicate (nL - (as.map (xv G)).length) Slot.unset).toArray) nL := by
  have key : ∀ (i : Nat) (z : Slot), (((as.map (xv G)).map Slot.val ++ List.replicate (nL - (as.map (xv G)).length) Slot.unset).toArray)[i]? = some z → (∃ v, z = .val (xv G v)) ∨ z = .unset := by
    intro i z hz
    rw [List.getElem?_toArray] at hz
    rcases List.mem_append.mp (List.mem_of_getElem? hz) with h | h
    · obtain ⟨v, hv, rfl⟩ := List.mem_map.mp h
      obtain ⟨w, -, rfl⟩ := List.mem_map.mp hv
      exact Or.inl ⟨w, rfl⟩
    · exact Or.inr (List.eq_of_mem_replicate h)
  refine ⟨by simp; omega, by simp; omega, ⟨fun i v hv hc => ?_, fun i hz => ?_⟩, fun i v hv hn => ?_⟩
  · rcases key i _ hv with ⟨w, hw⟩ | hw
    · cases hw
      rw [xv_cat G hF] at hc
      cases hc
    · cases hw
  · rcases key i _ hz with ⟨w, hw⟩ | hw
    · cases hw
    · cases hw
  · rw [List.getElem?_toArray]
    by_cases hi : i < as.length
    · rw [List.getElem?_append_left hi] at hv
      rw [List.getElem?_append_left (by simpa using hi), List.getElem?_map, List.getElem?_map, hv]
      rfl
    · rw [List.getElem?_append_right (by omega)] at hv
      exact absurd (List.eq_of_mem_replicate (List.mem_of_getElem? hv)) hn
theorem xtrue {M : XMt} {P : XPr} {pcs : Nat → List Nat} (hA : xAll M P pcs) (l : Launch) : ∀ n : Nat,
    (∀ (d m i : Nat) (ls st : List Value) (h : XH) (r : Option Value) (hF : XH), xrun P n d m (i, ls, st, h) = some (r, hF) →
      ∀ (G : XG) (p : Program) (e : Env) (R : Room) (s : State) (mm : MethodId) (args : Array Value) (below : List Frame) (meth : Method) (c : Code) (n0 s0 : Nat) (Q : State → Prop), xCx G p e R s mm args meth c (M m).1.cls (M m).2.1 (M m).2.2.1 d ((M m).1.name = "<init>") n0 s0 hF.length (xsl hF) → n0 ≤ h.length → s0 ≤ xsl h →
        xFin G p l e R s mm args below meth c (M m).2.1 n0 s0 Q (rkOf (M m).2.2.2) r hF → xW G p l e R s mm args below meth c (M m).2.2.1 n0 s0 Q ((pcs m).getD i 0) ls st h) := by
  intro n
  induction n with
  | zero => intro d m i ls st h r hF hr; simp [xrun] at hr
  | succ n ih =>
    have ihM : ∀ (G : XG) (d m : Nat) (as : List Value) (h : XH) (r : Option Value) (hF : XH), xrun P n d m (xent P m as h) = some (r, hF) → as.length ≤ (M m).2.2.1 → plainFor (M m).1 = true → xMet M G l d m as h r hF := by
      intro G d m as h r hF hr hl hy
      refine va_MetF (cc := (M m).2.1) (maxL := (M m).2.2.1) (ret := (M m).2.2.2) hy rfl ?_
      intro p e s mm args below meth c s₁ B hml hv
      obtain ⟨rfl, hP, hK⟩ := hv
      have hts := atoms_spec (ws := Cond.code (M m).1 (M m).2.1 (M m).2.2.1 (M m).2.2.2 :: XW) B.pre
      have hown : s.vm.findClass (M m).1.cls = some mm.cls := findClass_of_methodNamed B.named
      have hlocks := B.notSynchronized
      have hcat := hK.2.2.2.2.2.2.2.2.2.2.2.1
      have hin : (M m).1.name = "<init>" → meth.name = "<init>" := fun q => (name_of_methodNamed B.named B.method).1.trans q
      have hS0 : va_S (xA G) s.heap s.heap [] := va_S.rf
      rw [entry_eq mm (as.map (xv G)) (fun v hv => by obtain ⟨w, -, rfl⟩ := List.mem_map.mp hv; exact xv_cat G hcat w)]
      have key := ih d m 0 _ _ h r hF hr G p e (headSpec (Cond.code (M m).1 (M m).2.1 (M m).2.2.1 (M m).2.2.2 :: XW) { frames := d + 1, cells := hF.length - h.length, slots := xsl hF - xsl h, locals := 64 * d + 64 }).room s mm (as.map (xv G)).toArray below meth c h.length (xsl h)
        (MQ below (xQc G r hF) (as.map (xv G)).toArray s (hF.length - h.length) (xsl hF - xsl h) (xA G))
        ⟨B.exec, B.bytes, hml, hown, fun w hw => hts w (List.mem_cons_of_mem _ hw), hK, hin, Nat.le_refl _, Nat.le_refl _, Nat.le_refl _, Nat.le_refl _⟩ (Nat.le_refl _) (Nat.le_refl _) (fun H locs a pc hP' hS => ⟨fun x hx hk hd => ?_, fun hx hk hd => ?_⟩)
      · have hk2 := key s.heap [] (((as.map (xv G)).map Slot.val ++ List.replicate ((M m).2.2.1 - (as.map (xv G)).length) Slot.unset).toArray) hP hS0 (by rw [(hA m).1]; exact xL_entry hcat as _ hl)
        rw [Nat.sub_self, Nat.sub_self, (hA m).2.1] at hk2
        exact hk2
      · subst hx
        cases hret : (M m).2.2.2 with
        | none => rw [hret] at hk; cases hk
        | some ty =>
          rw [hret] at hk
          have hk' : vp_nar ty x = x := of_decide_eq_true hk
          exact W.zret (ty := ty) B.exec B.bytes (B.returns.trans hret) (by rw [nar_int, hk']) (fun t ht hW => ⟨rfl, by rw [ht]; exact hP', hS.F ht⟩) hS.2.2 hd hlocks
      · subst hx
        have hret : (M m).2.2.2 = none := by
          cases hm : (M m).2.2.2 with
          | none => rfl
          | some ty =>
            have h0 := hk 0
            rw [hm] at h0
            have : rkOf (some ty) 0 = true := by cases ty <;> rfl
            rw [this] at h0
            cases h0
        exact W.vret B.exec B.bytes (B.returns.trans hret) (fun t ht hW => ⟨rfl, by rw [ht]; exact hP', hS.F ht⟩) hS.2.2 hd hlocks
    intro d m i ls st h r hF hr G p e R s mm args below meth c n0 s0 Q C h1 h2 hfin
    rw [xrun] at hr
    cases ho : (P m).2[i]? with
    | none => rw [ho] at hr; simp at hr
    | some o =>
      rw [ho] at hr
      have hI := (hA m).2.2 i o ho
      cases o with
      | inl f =>
        dsimp only at hr
        cases hf : f ls st h with
        | none => rw [hf] at hr; simp at hr
        | some x =>
          rw [hf] at hr
          have hg := hI.1 ls st h x hf
          have hstep := hI.2 G p l e R s mm args below meth c d n0 s0 hF.length (xsl hF) Q C ls st h h1 h2
          cases x with
          | inl s' =>
            obtain ⟨i', ls', st', h'⟩ := s'
            have hr : xrun P n d m (i', ls', st', h') = some (r, hF) := hr
            have hgr := xgrow hA n d m _ _ hr
            have hg : h.length ≤ h'.length ∧ xsl h ≤ xsl h' := hg
            exact hstep.1 i' ls' st' h' hf hgr.1 hgr.2 (ih d m i' ls' st' h' r hF hr G p e R s mm args below meth c n0 s0 Q C (Nat.le_trans h1 hg.1) (Nat.le_trans h2 hg.2) hfin)
          | inr r' =>
            have hr : some r' = some (r, hF) := hr
            cases hr
            exact hstep.2 r hF hf hfin
      | inr q =>
        obtain ⟨rc, k, mj, nx⟩ := q
        dsimp only at hr
        cases d with
        | zero => simp at hr
        | succ d' =>
          dsimp only at hr
          by_cases hc : xcok rc k st h = true
          · rw [if_pos hc] at hr
            cases hrr : xrun P n d' mj (xent P mj (st.take k).reverse h) with
            | none => rw [hrr] at hr; simp at hr
            | some y =>
              rw [hrr] at hr
              obtain ⟨v, h'⟩ := y
              have hr : xrun P n (d' + 1) m (nx, ls, v.toList ++ st.drop k, h') = some (r, hF) := hr
              have g1 := xgrow hA n d' mj _ _ hrr
              have g2 := xgrow hA n (d' + 1) m _ _ hr
              have g1 : h.length ≤ h'.length ∧ xsl h ≤ xsl h' := g1
              have g2 : h'.length ≤ hF.length ∧ xsl h' ≤ xsl hF := g2
              have hM := ihM G d' mj (st.take k).reverse h v h' hrr (by
                have := (xcok_of hc).1
                have hk : k ≤ (M mj).2.2.1 := hI.2.1
                simp
                omega) hI.2.2
              exact hI.1 G p l e R s mm args below meth c d' n0 s0 hF.length (xsl hF) Q C ls st h v h' h1 h2 g1.1 g1.2 g2.1 g2.2 hc hM (ih (d' + 1) m nx ls _ h' r hF hr G p e R s mm args below meth c n0 s0 Q C (Nat.le_trans h1 g1.1) (Nat.le_trans h2 g1.2) hfin)
          · rw [if_neg hc] at hr; simp at hr
