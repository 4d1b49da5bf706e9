/-! THE WHOLE PROGRAM is right; the small machine, computed -/
theorem gd_0 : ∀ q ∈ xT0, xGood q := List.forall_mem_cons.mpr ⟨g_X0_init, List.forall_mem_cons.mpr ⟨g_X0_copyFrom, List.forall_mem_cons.mpr ⟨g_X0_removeRule, List.forall_mem_cons.mpr ⟨g_X0_putRow, List.forall_mem_cons.mpr ⟨g_X0_packRows, List.forall_mem_cons.mpr ⟨g_X0_packRowsOf, List.forall_mem_cons.mpr ⟨g_X0_ruleOf, List.forall_mem_cons.mpr ⟨g_X0_answerOf, List.forall_mem_cons.mpr ⟨g_X0_keysWithoutAnswer, List.forall_mem_cons.mpr ⟨g_X0_keysAnsweredOtherwise, List.forall_mem_cons.mpr ⟨g_X1_init, List.forall_mem_cons.mpr ⟨g_X1_copyFrom, List.forall_mem_cons.mpr ⟨g_X1_append, List.forall_mem_cons.mpr ⟨g_X1_removeLast, List.forall_mem_cons.mpr ⟨g_X2_init, List.forall_mem_cons.mpr ⟨g_X2_keep, (fun _ h => absurd h List.not_mem_nil)⟩⟩⟩⟩⟩⟩⟩⟩⟩⟩⟩⟩⟩⟩⟩⟩
theorem gd_1 : ∀ q ∈ xT1, xGood q := List.forall_mem_cons.mpr ⟨g_X2_giveBack, List.forall_mem_cons.mpr ⟨g_X3_init, List.forall_mem_cons.mpr ⟨g_X3_copyFrom, List.forall_mem_cons.mpr ⟨g_X3_append, List.forall_mem_cons.mpr ⟨g_X3_remove, List.forall_mem_cons.mpr ⟨g_X3_numberOf, List.forall_mem_cons.mpr ⟨g_X3_answerOf, List.forall_mem_cons.mpr ⟨g_X3_headBits, List.forall_mem_cons.mpr ⟨g_X3_has, List.forall_mem_cons.mpr ⟨g_X3_answeringRule, List.forall_mem_cons.mpr ⟨g_X3_answeringRuleBut, List.forall_mem_cons.mpr ⟨g_X3_rowsOf, List.forall_mem_cons.mpr ⟨g_X3_allRows, List.forall_mem_cons.mpr ⟨g_X3_rulesThatHave, List.forall_mem_cons.mpr ⟨g_X3_keysHadBy, List.forall_mem_cons.mpr ⟨g_X3_keysAnsweredBy, (fun _ h => absurd h List.not_mem_nil)⟩⟩⟩⟩⟩⟩⟩⟩⟩⟩⟩⟩⟩⟩⟩⟩
theorem gd_2 : ∀ q ∈ xT2, xGood q := List.forall_mem_cons.mpr ⟨g_X3_isCovered, List.forall_mem_cons.mpr ⟨g_X3_isIdle, List.forall_mem_cons.mpr ⟨g_X3_coveredRules, List.forall_mem_cons.mpr ⟨g_X3_idleRules, List.forall_mem_cons.mpr ⟨g_X4_init, List.forall_mem_cons.mpr ⟨g_X4_reads, List.forall_mem_cons.mpr ⟨g_X4_passes, List.forall_mem_cons.mpr ⟨g_X4_figure, List.forall_mem_cons.mpr ⟨g_X4_number, List.forall_mem_cons.mpr ⟨g_X4_signs, List.forall_mem_cons.mpr ⟨g_X4_sign, List.forall_mem_cons.mpr ⟨g_X5_init, List.forall_mem_cons.mpr ⟨g_X5_clearAll, List.forall_mem_cons.mpr ⟨g_X5_copyFrom, List.forall_mem_cons.mpr ⟨g_X5_isEmpty, List.forall_mem_cons.mpr ⟨g_X5_clear, (fun _ h => absurd h List.not_mem_nil)⟩⟩⟩⟩⟩⟩⟩⟩⟩⟩⟩⟩⟩⟩⟩⟩
theorem gd_3 : ∀ q ∈ xT3, xGood q := List.forall_mem_cons.mpr ⟨g_X5_clearRank, List.forall_mem_cons.mpr ⟨g_X5_put, List.forall_mem_cons.mpr ⟨g_X5_shift, List.forall_mem_cons.mpr ⟨g_X5_loosen, List.forall_mem_cons.mpr ⟨g_X5_fits, List.forall_mem_cons.mpr ⟨g_X5_meets, List.forall_mem_cons.mpr ⟨g_X5_onlySignUnlike, List.forall_mem_cons.mpr ⟨g_X5_floorOf, List.forall_mem_cons.mpr ⟨g_X5_ceilingOf, List.forall_mem_cons.mpr ⟨g_X5_isOpen, List.forall_mem_cons.mpr ⟨g_X5_lowestOpen, List.forall_mem_cons.mpr ⟨g_X5_highestOpen, List.forall_mem_cons.mpr ⟨g_X5_openSlots, List.forall_mem_cons.mpr ⟨g_X5_rows, List.forall_mem_cons.mpr ⟨g_X5_rowsBetween, List.forall_mem_cons.mpr ⟨g_X5_rowsNotAsIn, (fun _ h => absurd h List.not_mem_nil)⟩⟩⟩⟩⟩⟩⟩⟩⟩⟩⟩⟩⟩⟩⟩⟩
theorem gd_4 : ∀ q ∈ xT4, xGood q := List.forall_mem_cons.mpr ⟨g_X5_signsOf, List.forall_mem_cons.mpr ⟨g_X5_answeringSlot, List.forall_mem_cons.mpr ⟨g_X5_keysAnsweredBy, List.forall_mem_cons.mpr ⟨g_X5_rowsThatFit, List.forall_mem_cons.mpr ⟨g_X5_blocksOn, List.forall_mem_cons.mpr ⟨g_X5_allBlocksOn, List.forall_mem_cons.mpr ⟨g_X5_mostBlocksOn, List.forall_mem_cons.mpr ⟨g_X5_pairsThatMeet, List.forall_mem_cons.mpr ⟨g_X5_differentRows, List.forall_mem_cons.mpr ⟨g_X5_isBelow, List.forall_mem_cons.mpr ⟨g_X6_init, List.forall_mem_cons.mpr ⟨g_X6_append, List.forall_mem_cons.mpr ⟨g_X6_letterAt, List.forall_mem_cons.mpr ⟨g_X7_init, List.forall_mem_cons.mpr ⟨g_X7_write, List.forall_mem_cons.mpr ⟨g_X7_wipe, (fun _ h => absurd h List.not_mem_nil)⟩⟩⟩⟩⟩⟩⟩⟩⟩⟩⟩⟩⟩⟩⟩⟩
theorem gd_5 : ∀ q ∈ xT5, xGood q := List.forall_mem_cons.mpr ⟨g_X7_fault, List.forall_mem_cons.mpr ⟨g_X7_lay, List.forall_mem_cons.mpr ⟨g_X7_add, List.forall_mem_cons.mpr ⟨g_X7_drop, List.forall_mem_cons.mpr ⟨g_X7_purge, List.forall_mem_cons.mpr ⟨g_X7_pack, List.forall_mem_cons.mpr ⟨g_X7_move, List.forall_mem_cons.mpr ⟨g_X7_undo, List.forall_mem_cons.mpr ⟨g_X7_rule, List.forall_mem_cons.mpr ⟨g_X7_would, List.forall_mem_cons.mpr ⟨g_X7_moved, List.forall_mem_cons.mpr ⟨g_X7_slot, List.forall_mem_cons.mpr ⟨g_X7_reach, List.forall_mem_cons.mpr ⟨g_X7_meet, List.forall_mem_cons.mpr ⟨g_X7_join, List.forall_mem_cons.mpr ⟨g_X7_key, (fun _ h => absurd h List.not_mem_nil)⟩⟩⟩⟩⟩⟩⟩⟩⟩⟩⟩⟩⟩⟩⟩⟩
theorem gd_6 : ∀ q ∈ xT6, xGood q := List.forall_mem_cons.mpr ⟨g_X7_keys, List.forall_mem_cons.mpr ⟨g_X7_count, List.forall_mem_cons.mpr ⟨g_X7_isRule, List.forall_mem_cons.mpr ⟨g_X7_isSlot, List.forall_mem_cons.mpr ⟨g_X7_isHead, List.forall_mem_cons.mpr ⟨g_X7_isSpan, List.forall_mem_cons.mpr ⟨g_X7_readText, List.forall_mem_cons.mpr ⟨g_X7_layText, List.forall_mem_cons.mpr ⟨g_X7_tryRule, List.forall_mem_cons.mpr ⟨g_X7_letComeIn, List.forall_mem_cons.mpr ⟨g_X7_comesInBy, List.forall_mem_cons.mpr ⟨g_X7_comesInBehindMoveOf, List.forall_mem_cons.mpr ⟨g_X7_isSameJoined, List.forall_mem_cons.mpr ⟨g_X7_pieceSize, List.forall_mem_cons.mpr ⟨g_X7_rowsOfSpan, List.forall_mem_cons.mpr ⟨g_X8_in, (fun _ h => absurd h List.not_mem_nil)⟩⟩⟩⟩⟩⟩⟩⟩⟩⟩⟩⟩⟩⟩⟩⟩
theorem gd_7 : ∀ q ∈ xT7, xGood q := List.forall_mem_cons.mpr ⟨g_X8_init, List.forall_mem_cons.mpr ⟨g_X8_clears, List.forall_mem_cons.mpr ⟨g_X8_comes, List.forall_mem_cons.mpr ⟨g_X8_pieceFrom, List.forall_mem_cons.mpr ⟨g_X8_rowsOf, List.forall_mem_cons.mpr ⟨g_X8_pieceOf, List.forall_mem_cons.mpr ⟨g_X8_signOf, List.forall_mem_cons.mpr ⟨g_X8_maskOf, List.forall_mem_cons.mpr ⟨g_X8_doMeet, List.forall_mem_cons.mpr ⟨g_X8_isFit, List.forall_mem_cons.mpr ⟨g_X8_laysMasks, List.forall_mem_cons.mpr ⟨g_X8_has, List.forall_mem_cons.mpr ⟨g_X8_listRule, List.forall_mem_cons.mpr ⟨g_X8_answerBy, List.forall_mem_cons.mpr ⟨g_X8_isCovered, List.forall_mem_cons.mpr ⟨g_X8_isIdle, (fun _ h => absurd h List.not_mem_nil)⟩⟩⟩⟩⟩⟩⟩⟩⟩⟩⟩⟩⟩⟩⟩⟩
theorem gd_8 : ∀ q ∈ xT8, xGood q := List.forall_mem_cons.mpr ⟨g_X8_write, List.forall_mem_cons.mpr ⟨g_X8_wipe, List.forall_mem_cons.mpr ⟨g_X8_here, List.forall_mem_cons.mpr ⟨g_X8_takes, List.forall_mem_cons.mpr ⟨g_X8_isNumber, List.forall_mem_cons.mpr ⟨g_X8_isSign, List.forall_mem_cons.mpr ⟨g_X8_ofRank, List.forall_mem_cons.mpr ⟨g_X8_readsRule, List.forall_mem_cons.mpr ⟨g_X8_isTold, List.forall_mem_cons.mpr ⟨g_X8_fault, List.forall_mem_cons.mpr ⟨g_X8_lay, List.forall_mem_cons.mpr ⟨g_X8_packs, List.forall_mem_cons.mpr ⟨g_X8_remembers, List.forall_mem_cons.mpr ⟨g_X8_undo, List.forall_mem_cons.mpr ⟨g_X8_isInOrder, List.forall_mem_cons.mpr ⟨g_X8_mayMove, (fun _ h => absurd h List.not_mem_nil)⟩⟩⟩⟩⟩⟩⟩⟩⟩⟩⟩⟩⟩⟩⟩⟩
theorem gd_9 : ∀ q ∈ xT9, xGood q := List.forall_mem_cons.mpr ⟨g_X8_moves, List.forall_mem_cons.mpr ⟨g_X8_placeFor, List.forall_mem_cons.mpr ⟨g_X8_placeBehind, List.forall_mem_cons.mpr ⟨g_X8_comesRow, List.forall_mem_cons.mpr ⟨g_X8_emptySlots, List.forall_mem_cons.mpr ⟨g_X8_comesRule, List.forall_mem_cons.mpr ⟨g_X8_putsBack, List.forall_mem_cons.mpr ⟨g_X8_isRule, List.forall_mem_cons.mpr ⟨g_X8_add, List.forall_mem_cons.mpr ⟨g_X8_would, List.forall_mem_cons.mpr ⟨g_X8_isRuleNumber, List.forall_mem_cons.mpr ⟨g_X8_goes, List.forall_mem_cons.mpr ⟨g_X8_drop, List.forall_mem_cons.mpr ⟨g_X8_purge, List.forall_mem_cons.mpr ⟨g_X8_pack, List.forall_mem_cons.mpr ⟨g_X8_isSlot, (fun _ h => absurd h List.not_mem_nil)⟩⟩⟩⟩⟩⟩⟩⟩⟩⟩⟩⟩⟩⟩⟩⟩
theorem gd_10 : ∀ q ∈ xT10, xGood q := List.forall_mem_cons.mpr ⟨g_X8_move, List.forall_mem_cons.mpr ⟨g_X8_keysOf, List.forall_mem_cons.mpr ⟨g_X8_bit, List.forall_mem_cons.mpr ⟨g_X8_rule, List.forall_mem_cons.mpr ⟨g_X8_moved, List.forall_mem_cons.mpr ⟨g_X8_slotOf, List.forall_mem_cons.mpr ⟨g_X8_tableAnswer, List.forall_mem_cons.mpr ⟨g_X8_slot, List.forall_mem_cons.mpr ⟨g_X8_reach, List.forall_mem_cons.mpr ⟨g_X8_meet, List.forall_mem_cons.mpr ⟨g_X8_isSame, List.forall_mem_cons.mpr ⟨g_X8_join, List.forall_mem_cons.mpr ⟨g_X8_blocksOn, List.forall_mem_cons.mpr ⟨g_X8_key, List.forall_mem_cons.mpr ⟨g_X8_ones, List.forall_mem_cons.mpr ⟨g_X8_keys, (fun _ h => absurd h List.not_mem_nil)⟩⟩⟩⟩⟩⟩⟩⟩⟩⟩⟩⟩⟩⟩⟩⟩
theorem gd_11 : ∀ q ∈ xT11, xGood q := List.forall_mem_cons.mpr ⟨g_X8_pairsThatMeet, List.forall_mem_cons.mpr ⟨g_X8_differentRows, List.forall_mem_cons.mpr ⟨g_X8_rulesThat, List.forall_mem_cons.mpr ⟨g_X8_count, List.forall_mem_cons.mpr ⟨g_L_law, List.forall_mem_cons.mpr ⟨g_J6_bitCount_0f7a4, List.forall_mem_cons.mpr ⟨g_J9_max_7cf53, List.forall_mem_cons.mpr ⟨g_J9_min_7cf53, List.forall_mem_cons.mpr ⟨g_J0_length_8abf5, List.forall_mem_cons.mpr ⟨g_J0_charAt_5068e, List.forall_mem_cons.mpr ⟨g_J0_coder_7d493, List.forall_mem_cons.mpr ⟨g_J0_isLatin1_aae02, List.forall_mem_cons.mpr ⟨g_J0_checkIndex_df160, List.forall_mem_cons.mpr ⟨g_J1_charAt_3b067, List.forall_mem_cons.mpr ⟨g_J7_fill_53178, List.forall_mem_cons.mpr ⟨g_J3_checkIndex_8e157, (fun _ h => absurd h List.not_mem_nil)⟩⟩⟩⟩⟩⟩⟩⟩⟩⟩⟩⟩⟩⟩⟩⟩
theorem gd_all : ∀ q ∈ xT, xGood q := List.forall_mem_append.mpr ⟨gd_0, List.forall_mem_append.mpr ⟨gd_1, List.forall_mem_append.mpr ⟨gd_2, List.forall_mem_append.mpr ⟨gd_3, List.forall_mem_append.mpr ⟨gd_4, List.forall_mem_append.mpr ⟨gd_5, List.forall_mem_append.mpr ⟨gd_6, List.forall_mem_append.mpr ⟨gd_7, List.forall_mem_append.mpr ⟨gd_8, List.forall_mem_append.mpr ⟨gd_9, List.forall_mem_append.mpr ⟨gd_10, gd_11⟩⟩⟩⟩⟩⟩⟩⟩⟩⟩⟩
theorem xall : xAll xM XP xpc := by
  intro m
  have hg : xGood (xRow m) := by
    unfold xRow
    rw [List.getD_eq_getElem?_getD]
    cases hq : xT[m]? with
    | none => exact ⟨rfl, trivial⟩
    | some q => exact gd_all q (List.mem_of_getElem? hq)
  refine ⟨rfl, hg.1, fun i o ho => ?_⟩
  have h1 := xAllL_get _ 0 i o hg.2 ho
  rw [Nat.zero_add] at h1
  cases o <;> exact h1
section XRules
variable {P : XPr} {d m i nl nx tg : Nat} {ops : List XO} {ls st : List Value} {h : XH}
theorem xe_if {g : Int32 → Bool} {x : Int32} (hp : P m = (nl, ops)) (ho : ops[i]? = some (.inl (o_if g tg nx))) (p : Prop) [Decidable p] (hg : g x = decide p) : xe P d m (i, ls, .int x :: st, h) = if p then xe P d m (tg, ls, st, h) else xe P d m (nx, ls, st, h) := by
  by_cases hq : p
  · rw [if_pos hq]
    exact xe_go hp ho (by simp [o_if, hg, hq])
  · rw [if_neg hq]
    exact xe_go hp ho (by simp [o_if, hg, hq])
theorem xe_icmp {g : Int32 → Int32 → Bool} {x y : Int32} (hp : P m = (nl, ops)) (ho : ops[i]? = some (.inl (o_icmp g tg nx))) (p : Prop) [Decidable p] (hg : g x y = decide p) : xe P d m (i, ls, .int y :: .int x :: st, h) = if p then xe P d m (tg, ls, st, h) else xe P d m (nx, ls, st, h) := by
  by_cases hq : p
  · rw [if_pos hq]
    exact xe_go hp ho (by simp [o_icmp, hg, hq])
  · rw [if_neg hq]
    exact xe_go hp ho (by simp [o_icmp, hg, hq])
theorem xe_dv {g : Int32 → Int32 → Int32} {x y : Int32} (hp : P m = (nl, ops)) (ho : ops[i]? = some (.inl (o_dv g nx))) : xe P d m (i, ls, .int y :: .int x :: st, h) = if y = 0 then none else xe P d m (nx, ls, .int (g x y) :: st, h) := by
  by_cases hq : y = 0
  · rw [if_pos hq]
    exact xe_stuck hp ho (by simp [o_dv, hq])
  · rw [if_neg hq]
    exact xe_go hp ho (by simp [o_dv, hq])
theorem xe_dvc {g : Int32 → Int32 → Int32} {x y : Int32} (hp : P m = (nl, ops)) (ho : ops[i]? = some (.inl (o_dv g nx))) (hy : ¬ y = 0) : xe P d m (i, ls, .int y :: .int x :: st, h) = xe P d m (nx, ls, .int (g x y) :: st, h) := by
  rw [xe_dv hp ho, if_neg hy]
theorem xe_getf {ci k t : Nat} (hp : P m = (nl, ops)) (ho : ops[i]? = some (.inl (o_getf ci k nx))) : xe P d m (i, ls, .ref t :: st, h) = (xgf h t ci k).bind fun v => xe P d m (nx, ls, v :: st, h) := by
  cases hq : xgf h t ci k with
  | none => exact xe_stuck hp ho (by simp [o_getf, hq])
  | some v => exact xe_go hp ho (by simp [o_getf, hq])
/-- a field is written -/
def xpf (h : XH) (t ci k : Nat) (v : Value) : Option XH := match h[t]? with
  | some (.inl (c, fs)) => if (decide (c = ci) && decide (k < fs.length)) = true then some (h.set t (.inl (ci, fs.set k v))) else none
  | _ => none
theorem xe_put {isR : Bool} {ci k t : Nat} {v : Value} (hp : P m = (nl, ops)) (ho : ops[i]? = some (.inl (o_put isR ci k nx))) (hv : xkd isR v = true) : xe P d m (i, ls, v :: .ref t :: st, h) = (xpf h t ci k v).bind fun h' => xe P d m (nx, ls, st, h') := by
  cases hq : xpf h t ci k v with
  | none =>
    refine xe_stuck hp ho ?_
    unfold xpf at hq
    unfold o_put
    dsimp only
    split at hq
    · next c fs hc =>
      rw [hc]
      dsimp only
      split at hq
      · cases hq
      · next hn =>
        rw [if_neg]
        intro q
        rw [hv] at q
        exact hn (by simpa using q)
    · next hn =>
      split
      · next c fs hc => exact absurd hc (hn c fs)
      · rfl
  | some h' =>
    refine xe_go hp ho ?_
    unfold xpf at hq
    unfold o_put
    dsimp only
    split at hq
    · next c fs hc =>
      rw [hc]
      dsimp only
      split at hq
      · next hn =>
        cases hq
        rw [if_pos]
        rw [hv]
        simpa using hn
      · cases hq
    · cases hq
/-- a number of an array -/
def xld (h : XH) (t ty : Nat) (j : Int32) : Option Int32 := (xar h t ty).bind fun q => if xin j q.1 = true then some (q.2 j.toNatClampNeg) else none
theorem xe_ald {ty t : Nat} {j : Int32} (hp : P m = (nl, ops)) (ho : ops[i]? = some (.inl (o_ald ty nx))) : xe P d m (i, ls, .int j :: .ref t :: st, h) = (xld h t ty j).bind fun x => xe P d m (nx, ls, .int x :: st, h) := by
  unfold xld
  cases hq : xar h t ty with
  | none => exact xe_stuck hp ho (by simp [o_ald, hq])
  | some q =>
    obtain ⟨n, f⟩ := q
    by_cases hj : xin j n = true
    · simp only [Option.bind_some, if_pos hj]
      exact xe_go hp ho (by simp [o_ald, hq, hj])
    · simp only [Option.bind_some, if_neg hj, Option.bind_none]
      exact xe_stuck hp ho (by simp [o_ald, hq, hj])
/-- an array, written -/
def xst (h : XH) (t ty : Nat) (j x : Int32) : Option XH := (xar h t ty).bind fun q => if (xin j q.1 && (decide (ty = 0) || (x == 0 || x == 1))) = true then some (h.set t (.inr (.inl (ty, q.1, upd q.2 j.toNatClampNeg x)))) else none
theorem xe_ast {ty t : Nat} {j x : Int32} (hp : P m = (nl, ops)) (ho : ops[i]? = some (.inl (o_ast ty nx))) : xe P d m (i, ls, .int x :: .int j :: .ref t :: st, h) = (xst h t ty j x).bind fun h' => xe P d m (nx, ls, st, h') := by
  unfold xst
  cases hq : xar h t ty with
  | none => exact xe_stuck hp ho (by simp [o_ast, hq])
  | some q =>
    obtain ⟨n, f⟩ := q
    by_cases hj : (xin j n && (decide (ty = 0) || (x == 0 || x == 1))) = true
    · simp only [Option.bind_some, if_pos hj]
      exact xe_go hp ho (by unfold o_ast; dsimp only; rw [hq]; dsimp only; rw [if_pos hj])
    · simp only [Option.bind_some, if_neg hj, Option.bind_none]
      exact xe_stuck hp ho (by unfold o_ast; dsimp only; rw [hq]; dsimp only; rw [if_neg hj])
theorem xe_len {ty t : Nat} (hp : P m = (nl, ops)) (ho : ops[i]? = some (.inl (o_len ty nx))) : xe P d m (i, ls, .ref t :: st, h) = (xar h t ty).bind fun q => xe P d m (nx, ls, .int (nI q.1) :: st, h) := by
  cases hq : xar h t ty with
  | none => exact xe_stuck hp ho (by simp [o_len, hq])
  | some q => exact xe_go hp ho (by obtain ⟨n, f⟩ := q; simp [o_len, hq])
/-- a board of the row -/
def xbl (h : XH) (t : Nat) (j : Int32) : Option Value := (xbs h t).bind fun vs => if xin j vs.length = true then some (vs.getD j.toNatClampNeg .null) else none
theorem xe_aald {t : Nat} {j : Int32} (hp : P m = (nl, ops)) (ho : ops[i]? = some (.inl (o_aald nx))) : xe P d m (i, ls, .int j :: .ref t :: st, h) = (xbl h t j).bind fun v => xe P d m (nx, ls, v :: st, h) := by
  unfold xbl
  cases hq : xbs h t with
  | none => exact xe_stuck hp ho (by simp [o_aald, hq])
  | some vs =>
    by_cases hj : xin j vs.length = true
    · simp only [Option.bind_some, if_pos hj]
      exact xe_go hp ho (by simp [o_aald, hq, hj])
    · simp only [Option.bind_some, if_neg hj, Option.bind_none]
      exact xe_stuck hp ho (by simp [o_aald, hq, hj])
def xbw (h : XH) (t : Nat) (j : Int32) (v : Nat) : Option XH := (xbs h t).bind fun vs => if (xin j vs.length && decide (xcls h (.ref v) = some 0)) = true then some (h.set t (.inr (.inr (vs.set j.toNatClampNeg (.ref v))))) else none
theorem xe_aast {t v : Nat} {j : Int32} (hp : P m = (nl, ops)) (ho : ops[i]? = some (.inl (o_aast nx))) : xe P d m (i, ls, .ref v :: .int j :: .ref t :: st, h) = (xbw h t j v).bind fun h' => xe P d m (nx, ls, st, h') := by
  unfold xbw
  cases hq : xbs h t with
  | none => exact xe_stuck hp ho (by simp [o_aast, hq])
  | some vs =>
    by_cases hj : (xin j vs.length && decide (xcls h (.ref v) = some 0)) = true
    · simp only [Option.bind_some, if_pos hj]
      exact xe_go hp ho (by unfold o_aast; dsimp only; rw [hq]; dsimp only; rw [if_pos hj])
    · simp only [Option.bind_some, if_neg hj, Option.bind_none]
      exact xe_stuck hp ho (by unfold o_aast; dsimp only; rw [hq]; dsimp only; rw [if_neg hj])
theorem xe_newarr {ty N : Nat} {n : Int32} (hp : P m = (nl, ops)) (ho : ops[i]? = some (.inl (o_newarr ty nx))) (h1 : (decide (¬ n < 0) && decide (n.toNatClampNeg ≤ 1000)) = true) (h2 : n.toNatClampNeg = N) : xe P d m (i, ls, .int n :: st, h) = xe P d m (nx, ls, .ref h.length :: st, h ++ [.inr (.inl (ty, N, fun _ => 0))]) :=
  xe_go hp ho (by unfold o_newarr; dsimp only; rw [if_pos h1, h2])
theorem xe_anew {N : Nat} {n : Int32} (hp : P m = (nl, ops)) (ho : ops[i]? = some (.inl (o_anew nx))) (h1 : (decide (¬ n < 0) && decide (n.toNatClampNeg ≤ 1000)) = true) (h2 : n.toNatClampNeg = N) : xe P d m (i, ls, .int n :: st, h) = xe P d m (nx, ls, .ref h.length :: st, h ++ [.inr (.inr (List.replicate N .null))]) :=
  xe_go hp ho (by unfold o_anew; dsimp only; rw [if_pos h1, h2])
/-- a stretch of a row, copied -/
def xcp (h : XH) (a b : Nat) (sp dp n : Int32) : Option XH := (xar h a 0).bind fun p => (xar h b 0).bind fun q => if (decide (¬ sp < 0) && (decide (¬ dp < 0) && (decide (¬ n < 0) && (decide (sp.toNatClampNeg + n.toNatClampNeg ≤ p.1) && decide (dp.toNatClampNeg + n.toNatClampNeg ≤ q.1))))) = true then some (h.set b (.inr (.inl (0, q.1, va_cpy p.2 q.2 sp.toNatClampNeg dp.toNatClampNeg n.toNatClampNeg)))) else none
theorem xe_copy {a b : Nat} {sp dp n : Int32} (hp : P m = (nl, ops)) (ho : ops[i]? = some (.inl (o_copy nx))) (h8 : st.length ≤ 8) : xe P d m (i, ls, .int n :: .int dp :: .ref b :: .int sp :: .ref a :: st, h) = (xcp h a b sp dp n).bind fun h' => xe P d m (nx, ls, st, h') := by
  unfold xcp
  cases hq : xar h a 0 with
  | none => exact xe_stuck hp ho (by simp [o_copy, hq])
  | some q =>
    cases hr : xar h b 0 with
    | none => exact xe_stuck hp ho (by simp [o_copy, hq, hr])
    | some r =>
      by_cases hj : (decide (¬ sp < 0) && (decide (¬ dp < 0) && (decide (¬ n < 0) && (decide (sp.toNatClampNeg + n.toNatClampNeg ≤ q.1) && decide (dp.toNatClampNeg + n.toNatClampNeg ≤ r.1))))) = true
      · simp only [Option.bind_some, if_pos hj]
        refine xe_go hp ho ?_
        unfold o_copy
        dsimp only
        rw [hq, hr]
        obtain ⟨n0, f⟩ := q
        obtain ⟨n1, g⟩ := r
        dsimp only
        rw [if_pos]
        simp only [Bool.and_eq_true, decide_eq_true_eq] at hj ⊢
        exact ⟨hj.1, hj.2.1, hj.2.2.1, hj.2.2.2.1, hj.2.2.2.2, h8⟩
      · simp only [Option.bind_some, if_neg hj, Option.bind_none]
        refine xe_stuck hp ho ?_
        unfold o_copy
        dsimp only
        rw [hq, hr]
        obtain ⟨n0, f⟩ := q
        obtain ⟨n1, g⟩ := r
        dsimp only
        rw [if_neg]
        intro q
        apply hj
        simp only [Bool.and_eq_true, decide_eq_true_eq] at q ⊢
        exact ⟨q.1, q.2.1, q.2.2.1, q.2.2.2.1, q.2.2.2.2.1⟩
theorem xe_oini {t : Nat} (hp : P m = (nl, ops)) (ho : ops[i]? = some (.inl (o_oini nx))) (h8 : st.length ≤ 8) : xe P d m (i, ls, .ref t :: st, h) = xe P d m (nx, ls, st, h) :=
  xe_go hp ho (by simp [o_oini, h8])
theorem xe_iret {x : Int32} (hp : P m = (nl, ops)) (ho : ops[i]? = some (.inl (o_iret (rkOf (some .int))))) : xe P d m (i, ls, [.int x], h) = some (some (.int x), h) :=
  xe_end hp ho (by unfold o_iret; dsimp only; rw [if_pos (show rkOf (some .int) x = true from decide_eq_true rfl)])
theorem xe_zret {x : Int32} {ty : FieldType} (hp : P m = (nl, ops)) (ho : ops[i]? = some (.inl (o_iret (rkOf (some ty))))) : xe P d m (i, ls, [.int x], h) = if rkOf (some ty) x = true then some (some (.int x), h) else none := by
  by_cases hx : rkOf (some ty) x = true
  · rw [if_pos hx]
    exact xe_end hp ho (by unfold o_iret; dsimp only; rw [if_pos hx])
  · rw [if_neg hx]
    exact xe_stuck hp ho (by unfold o_iret; dsimp only; rw [if_neg hx])
theorem xe_callv {as rest : List Value} {k mj t ci : Nat} (hp : P m = (nl, ops)) (ho : ops[i]? = some (.inr (some ci, k, mj, nx))) (hk : as.length + 1 = k) (hr : rest.length ≤ 8) (hc : xcls h (.ref t) = some ci) :
    xe P (d + 1) m (i, ls, as.reverse ++ .ref t :: rest, h) = xbk P (d + 1) m nx ls rest (xc P d mj (.ref t :: as) h) := by
  subst hk
  have e1 : (as.reverse ++ .ref t :: rest).take (as.length + 1) = as.reverse ++ [.ref t] := by
    rw [show as.reverse ++ .ref t :: rest = (as.reverse ++ [.ref t]) ++ rest by simp]
    rw [List.take_left' (by simp)]
  have e2 : (as.reverse ++ .ref t :: rest).drop (as.length + 1) = rest := by
    rw [show as.reverse ++ .ref t :: rest = (as.reverse ++ [.ref t]) ++ rest by simp]
    rw [List.drop_left' (by simp)]
  have key := xe_call (d := d) (ls := ls) (st := as.reverse ++ .ref t :: rest) (h := h) hp ho (by
    unfold xcok
    rw [e1, e2]
    simp [hr, hc])
  rw [key, e1, e2]
  simp
theorem xe_calls {as rest : List Value} {k mj : Nat} (hp : P m = (nl, ops)) (ho : ops[i]? = some (.inr (none, k, mj, nx))) (hk : as.length = k) (hr : rest.length ≤ 8) :
    xe P (d + 1) m (i, ls, as.reverse ++ rest, h) = xbk P (d + 1) m nx ls rest (xc P d mj as h) := by
  subst hk
  have e1 : (as.reverse ++ rest).take as.length = as.reverse := List.take_left' (by simp)
  have e2 : (as.reverse ++ rest).drop as.length = rest := List.drop_left' (by simp)
  have key := xe_call (d := d) (ls := ls) (st := as.reverse ++ rest) (h := h) hp ho (by
    unfold xcok
    rw [e2]
    simp [hr])
  rw [key, e1, e2]
  simp
theorem xbk_i {x : Int32} {h' : XH} : xbk P d m nx ls st (some (some (.int x), h')) = xe P d m (nx, ls, .int x :: st, h') := rfl
theorem xbk_v {h' : XH} : xbk P d m nx ls st (some (none, h')) = xe P d m (nx, ls, st, h') := rfl
/-- where a switch over numbers from k on goes -/
def xsw (tgs : List Nat) (k df : Nat) (x : Int32) : Nat := match tgs with
  | [] => df
  | t :: r => if x = nI k then t else xsw r (k + 1) df x
theorem xsw_eq (df : Nat) (x : Int32) : ∀ (tgs : List Nat) (k : Nat), k + tgs.length < 2 ^ 31 → (if x.toInt < (k : Int) then df else tgs.getD (x.toInt - k).toNat df) = xsw tgs k df x
  | [], k, _ => by simp [xsw]
  | t :: r, k, hk => by
    have hk' : k < 2 ^ 31 := by simp at hk; omega
    have hx : x = nI k ↔ x.toInt = (k : Int) := by
      rw [← Int32.toInt_inj, nI_toInt hk']
    unfold xsw
    by_cases hq : x = nI k
    · rw [if_pos hq, if_neg (by rw [hx.mp hq]; omega), hx.mp hq]
      simp
    · rw [if_neg hq, ← xsw_eq df x r (k + 1) (by simp at hk ⊢; omega)]
      have hne : x.toInt ≠ (k : Int) := fun z => hq (hx.mpr z)
      by_cases hl : x.toInt < (k : Int)
      · rw [if_pos hl, if_pos (by omega)]
      · rw [if_neg hl, if_neg (by omega)]
        obtain ⟨j, hj⟩ : ∃ j : Nat, (x.toInt - (k : Int)).toNat = j + 1 := ⟨(x.toInt - (k : Int)).toNat - 1, by omega⟩
        have hj2 : (x.toInt - ((k + 1 : Nat) : Int)).toNat = j := by omega
        rw [hj, hj2]
        simp
theorem xe_tsw {tgs : List Nat} {df : Nat} {x : Int32} (hp : P m = (nl, ops)) (ho : ops[i]? = some (.inl (o_tsw 0 tgs df))) (hl : 0 + tgs.length < 2 ^ 31) : xe P d m (i, ls, .int x :: st, h) = xe P d m (xsw tgs 0 df x, ls, st, h) :=
  xe_go hp ho (by unfold o_tsw; dsimp only; rw [← xsw_eq df x tgs 0 hl]; rfl)
end XRules
