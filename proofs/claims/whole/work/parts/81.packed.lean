/-! MATHS: the packed table; the whole state -/
def Srt (l : List Rl) (L : List (Nat × Nat)) : Prop := ∀ (s t : Nat) (x y : Nat × Nat), s < t → L[s]? = some x → L[t]? = some y → rkX l x < rkX l y ∨ (x.1 = y.1 ∧ x.2 < y.2)
theorem pkS_get {l : List Rl} {n i : Nat} {x : Nat × Nat} (h : (pkS l n)[i]? = some x) : ∃ r, nofR l n = some r ∧ i < rwR (rlN l r) ∧ x = (r, i) := by
  unfold pkS at h
  cases hq : nofR l n with
  | none => rw [hq] at h; simp at h
  | some r =>
    rw [hq] at h
    simp only [] at h
    rw [List.getElem?_map] at h
    by_cases g : i < rwR (rlN l r)
    · rw [List.getElem?_range g] at h
      cases h
      exact ⟨r, rfl, g, rfl⟩
    · rw [List.getElem?_eq_none (by simp; omega)] at h
      cases h
theorem pkL_all {l : List Rl} (hd : dst l) : ∀ n, (∀ (s : Nat) (x : Nat × Nat), (pkL l n)[s]? = some x → x.1 < l.length ∧ x.2 < rwR (rlN l x.1) ∧ rkX l x < n) ∧ Srt l (pkL l n) ∧ (∀ r p, r < l.length → (rlN l r).1 < n → p < rwR (rlN l r) → ∃ s : Nat, (pkL l n)[s]? = some (r, p)) := by
  intro n
  induction n with
  | zero =>
    have e : pkL l 0 = [] := rfl
    rw [e]
    exact ⟨fun s x h => by simp at h, fun s t x y _ h => by simp at h, fun r p _ h => by omega⟩
  | succ n ih =>
    obtain ⟨a, b, c⟩ := ih
    have e : pkL l (n + 1) = pkL l n ++ pkS l n := rfl
    rw [e]
    have get : ∀ (s : Nat) (x : Nat × Nat), (pkL l n ++ pkS l n)[s]? = some x → (s < (pkL l n).length ∧ (pkL l n)[s]? = some x) ∨ ((pkL l n).length ≤ s ∧ ∃ r, nofR l n = some r ∧ s - (pkL l n).length < rwR (rlN l r) ∧ x = (r, s - (pkL l n).length)) := by
      intro s x h
      by_cases g : s < (pkL l n).length
      · rw [List.getElem?_append_left g] at h
        exact Or.inl ⟨g, h⟩
      · rw [List.getElem?_append_right (by omega)] at h
        exact Or.inr ⟨by omega, pkS_get h⟩
    refine ⟨fun s x h => ?_, fun s t x y hst h1 h2 => ?_, fun r p h1 h2 h3 => ?_⟩
    · rcases get s x h with ⟨g, h⟩ | ⟨g, r, r1, r2, r3⟩
      · obtain ⟨q1, q2, q3⟩ := a s x h
        exact ⟨q1, q2, by omega⟩
      · have := nofR_some r1
        rw [r3]
        refine ⟨this.1, r2, ?_⟩
        show (rlN l r).1 < n + 1
        omega
    · rcases get s x h1 with ⟨g, h1⟩ | ⟨g, r, r1, r2, r3⟩
      · rcases get t y h2 with ⟨g', h2⟩ | ⟨g', r', r1', r2', r3'⟩
        · exact b s t x y hst h1 h2
        · have q := (a s x h1).2.2
          have := (nofR_some r1').2
          rw [r3']
          refine Or.inl ?_
          show rkX l x < (rlN l r').1
          omega
      · rcases get t y h2 with ⟨g', h2⟩ | ⟨g', r', r1', r2', r3'⟩
        · omega
        · rw [r1] at r1'
          cases r1'
          rw [r3, r3']
          exact Or.inr ⟨rfl, by show s - _ < t - _; omega⟩
    · by_cases g : (rlN l r).1 < n
      · obtain ⟨s, hs⟩ := c r p h1 g h3
        exact ⟨s, by rw [List.getElem?_append_left (List.getElem?_eq_some_iff.mp hs).1]; exact hs⟩
      · have hn : (rlN l r).1 = n := by omega
        have hq : nofR l n = some r := by rw [← hn]; exact nofR_of hd h1
        refine ⟨(pkL l n).length + p, ?_⟩
        rw [List.getElem?_append_right (by omega), Nat.add_sub_cancel_left, pkS_eq hq, List.getElem?_map, List.getElem?_range h3]
        rfl
theorem pk_inv {l : List Rl} (h16 : l.length ≤ 16) (hv : ∀ q ∈ l, vr q) (hd : dst l) (hA : allR l ≤ 16) : Inv l (pk l) := by
  obtain ⟨a, b, c⟩ := pkL_all hd 100
  have hlen : (pkL l 100).length ≤ 16 := by rw [pkL_len hd]; exact Nat.le_trans (sumK_le l 100) hA
  have hpk : ∀ s, pk l s = (pkL l 100)[s]? := pk_def l
  generalize pk l = P at hpk
  generalize pkL l 100 = L at a b c hlen hpk
  have irr : ∀ x, ¬ (rkX l x < rkX l x ∨ (x.1 = x.1 ∧ x.2 < x.2)) := fun x h => by omega
  refine ⟨⟨h16, hv, hd⟩, fun s x hs hx => ?_, fun s t x hs ht h1 h2 => ?_, fun s t x y hs ht h1 h2 hm hr => ?_, fun r p h1 h2 => ?_⟩
  · rw [hpk] at hx
    obtain ⟨q1, q2, -⟩ := a s x hx
    exact ⟨q1, q2⟩
  · rw [hpk] at h1 h2
    rcases Nat.lt_trichotomy s t with g | g | g
    · exact absurd (b s t x x g h1 h2) (irr x)
    · exact g
    · exact absurd (b t s x x g h2 h1) (irr x)
  · rw [hpk] at h1 h2
    rcases Nat.lt_trichotomy s t with g | g | g
    · exact g
    · subst g
      rw [h1] at h2
      cases h2
      omega
    · rcases b t s y x g h2 h1 with q | q
      · omega
      · unfold rkX at hr
        rw [q.1] at hr
        omega
  · obtain ⟨s, hs⟩ := c r p h1 (hv _ (rlN_mem h1)).1 h2
    have := (List.getElem?_eq_some_iff.mp hs).1
    exact ⟨s, by omega, by rw [hpk]; exact hs⟩
/-- the whole state is good -/
def SI (S : CS) : Prop := S.nx < 5 ∧ S.sz ≤ 5 ∧ S.tx.length ≤ 200 ∧ Inv S.l S.s ∧ ∀ j, j < S.sz → Inv (S.pb (rgI S j)).1 (S.pb (rgI S j)).2
section SIR
variable {S : CS}
theorem SI.kp (K : SI S) {l' : List Rl} {s' : Sl} {ms : Mvs} (I : Inv l' s') : SI (kpS S l' s' ms) := by
  obtain ⟨k1, k2, k0, k3, k4⟩ := K
  refine ⟨by show (S.nx + 1) % 5 < 5; omega, by show min (S.sz + 1) 5 ≤ 5; omega, k0, I, fun j hj => ?_⟩
  have hj : j < min (S.sz + 1) 5 := hj
  have hnx : (kpS S l' s' ms).nx = (S.nx + 1) % 5 := rfl
  have hpb : ∀ i, (kpS S l' s' ms).pb i = if i = S.nx then (S.l, S.s) else S.pb i := fun i => rfl
  rw [hpb]
  unfold rgI
  rw [hnx]
  by_cases q : j = 0
  · subst q
    have e : ((S.nx + 1) % 5 + 4 - 0) % 5 = S.nx := by omega
    rw [e, if_pos rfl]
    exact k3
  · have e : ((S.nx + 1) % 5 + 4 - j) % 5 = rgI S (j - 1) := by unfold rgI; omega
    have e2 : rgI S (j - 1) ≠ S.nx := by unfold rgI; omega
    rw [e, if_neg e2]
    exact k4 (j - 1) (by omega)
theorem SI.write (K : SI S) (x : Int32) : SI (aWrite S x).2 := by
  unfold aWrite
  split
  · exact K
  · split
    · exact K
    · next g => exact ⟨K.1, K.2.1, by show (S.tx ++ [xN x]).length ≤ 200; simp; omega, K.2.2.2.1, K.2.2.2.2⟩
theorem SI.wipe (K : SI S) : SI (aWipe S).2 := ⟨K.1, K.2.1, Nat.zero_le _, K.2.2.2.1, K.2.2.2.2⟩
theorem SI.lay (K : SI S) : SI (aLay S).2 := by
  unfold aLay
  have hR := rdS_v K.2.2.1 17 0 [] (by simp) (by intro i j hi; simp at hi) (by simp) (by omega)
  generalize rdS S.tx 17 0 [] = rd at *
  obtain ⟨fo, l'⟩ := rd
  cases fo with
  | some j => exact K
  | none =>
    simp only []
    split
    · next g => exact ⟨K.1, Nat.zero_le _, K.2.2.1, pk_inv hR.2.2 hR.1 hR.2.1 g, fun j hj => absurd hj (Nat.not_lt_zero j)⟩
    · exact K
theorem SI.add (K : SI S) (a b f t e : Int32) : SI (aAdd S a b f t e).2 := by
  unfold aAdd
  cases hq : vrI a b f t e with
  | none => rw [tryO_1 hq]; exact K
  | some q =>
    cases hN : nofR S.l q.1 with
    | some j => rw [tryO_2 hq hN]; exact K
    | none =>
      cases ho : trS S.l S.s q with
      | none => rw [tryO_3 hq hN ho]; exact K
      | some r =>
        rw [tryO_4 hq hN ho]
        exact K.kp (trS_ok K.2.2.2.1 (vrI_some hq).1 hN ho)
theorem SI.drop (K : SI S) (x : Int32) : SI (aDrop S x).2 := by
  unfold aDrop
  split
  · next g =>
    obtain ⟨n, hn, rfl⟩ := isR_of K.2.2.2.1.1.1 g
    rw [xN_nI (by have := K.2.2.2.1.1.1; omega)]
    exact K.kp (del_ok hn K.2.2.2.1)
  · exact K
theorem SI.purge (K : SI S) : SI (aPurge S).2 := by
  unfold aPurge
  split
  · exact K
  · exact K.kp (prg_ok _ _ _ (Nat.le_refl _) K.2.2.2.1)
theorem SI.pack (K : SI S) : SI (aPack S).2 := by
  have I := K.2.2.2.1
  have hp := pk_inv I.1.1 I.1.2.1 I.1.2.2 I.all
  unfold aPack
  generalize pk S.l = P at *
  split
  · exact K
  · exact K.kp hp
theorem SI.move (K : SI S) (x y : Int32) : SI (aMove S x y).2 := by
  unfold aMove
  split
  · next g =>
    obtain ⟨a, ha, rfl⟩ := isSl_of g.1
    obtain ⟨b, hb, rfl⟩ := isSl_of g.2
    rw [xN_nI (by omega), xN_nI (by omega)]
    split
    · next ho => exact K.kp (mv_inv ha hb ho K.2.2.2.1)
    · exact K
  · exact K
theorem SI.undo (K : SI S) : SI (aUndo S).2 := by
  unfold aUndo
  split
  · exact K
  · next g =>
    obtain ⟨k1, k2, k0, k3, k4⟩ := K
    have e0 : rgI S 0 = (S.nx + 4) % 5 := by unfold rgI; omega
    have h0 := k4 0 (by omega)
    rw [e0] at h0
    refine ⟨by show (S.nx + 4) % 5 < 5; omega, by show S.sz - 1 ≤ 5; omega, k0, h0, fun j hj => ?_⟩
    have hj : j < S.sz - 1 := hj
    have e : rgI (mkS S.tx (S.pb ((S.nx + 4) % 5)).1 (S.pb ((S.nx + 4) % 5)).2 S.ms ((S.nx + 4) % 5) (S.sz - 1) S.pb) j = rgI S (j + 1) := by
      show ((S.nx + 4) % 5 + 4 - j) % 5 = (S.nx + 4 - (j + 1)) % 5
      omega
    show Inv (S.pb (rgI (mkS S.tx (S.pb ((S.nx + 4) % 5)).1 (S.pb ((S.nx + 4) % 5)).2 S.ms ((S.nx + 4) % 5) (S.sz - 1) S.pb) j)).1 _
    rw [e]
    exact k4 (j + 1) (by omega)
end SIR
