/-! THE LAW: one call and the other answer the same (gen/law.py) -/
def B3 (n : Nat) (f : Nat → Int32) : XH := [.inr (.inl (3, n, f)), .inl (9, [.ref 2, .int 0]), .inr (.inl (4, 53, xtf))]
def LW (h : XH) (n : Nat) (f : Nat → Int32) (S : CS) : Prop := (∀ i, i < 3 → h[i]? = (B3 n f)[i]?) ∧ h.length = 126 ∧ Cr h 3 S ∧ Md h 113 S ∧ SI S
theorem xld_sc {h : XH} {n : Nat} {f : Nat → Int32} (e : h[0]? = some (.inr (.inl (3, n, f)))) (hn : n < 2 ^ 31) {k : Nat} (hk : k < n) : xld h 0 3 (nI k) = some (f k) := by
  unfold xld xar
  rw [e]
  simp only [if_true, Option.bind_some]
  rw [if_pos (xin_nI hk hn), nI_clamp (by omega)]
theorem Md.k {h : XH} {m : Nat} {S : CS} (K : Md h m S) : xcls h (.ref m) = some 8 := by
  obtain ⟨-, ⟨ra, nu, nr, nm, M⟩, -⟩ := K
  exact M.k
section LawR
variable {h : XH} {d n : Nat} {f : Nat → Int32} {S : CS}
theorem law_write (W : LW h n f S) {i : Nat} (hi6 : i + 6 ≤ n) (hn : n < 2 ^ 31) : ∃ h' S', xe XP (d + 15) 180 (22, [.ref 0, .ref 3, .ref 113, .int (nI i)], [], h) = xe XP (d + 15) 180 (452, [.ref 0, .ref 3, .ref 113, .int (nI i)], [], h') ∧ LW h' n f S' := by
  obtain ⟨wb, wl, K, D, I⟩ := W
  have w0 : h[0]? = some (.inr (.inl (3, n, f))) := wb 0 (by omega)
  have hd := I.2.2.2.1.1.2.2
  have hi := I.2.2.2.1.len
  have hA := I.2.2.2.1.all
  have hT : ∀ k, k < 128 → rAt S.s (tS S.l S.s k) = lsB S.l none k := fun k _ => I.2.2.2.1.keys k
  have c7 := K.O.k
  have x1 := xld_sc w0 hn (k := i + 1) (by omega)
  obtain ⟨h1, e1, K1, s1⟩ := q_write K  (f (i + 1)) (d := d)
  have D1 := D.same s1 (by omega)
  have v0 : h1[0]? = some (.inr (.inl (3, n, f))) := by rw [s1.2 _ (by omega)]; exact w0
  have y1 := xld_sc v0 hn (k := i + 1) (by omega)
  have c8 := D1.k
  obtain ⟨h2, e2, D2, s2⟩ := q_writeM D1  (f (i + 1)) (d := d)
  have K2 := K1.same s2 (by omega)
  refine ⟨h2, _, ?_, fun i hi => (by rw [s2.2 _ (by omega), s1.2 _ (by omega)]; exact wb i hi), by rw [s2.1, s1.1]; exact wl, K2, D2, I.write (f (i + 1))⟩
  simp (disch := first | assumption | omega) only [e_L_law_22, e_L_law_23, e_L_law_24, e_L_law_25, e_L_law_26, e_L_law_27, e_L_law_28, e_L_law_29, e_L_law_30, e_L_law_31, e_L_law_32, e_L_law_33, e_L_law_34, e_L_law_35, e_L_law_36, nI_add, Option.bind_some, x1, y1, e1, e2, xbk_i, if_true]
theorem law_wipe (W : LW h n f S) {i : Nat} (hi6 : i + 6 ≤ n) (hn : n < 2 ^ 31) : ∃ h' S', xe XP (d + 15) 180 (39, [.ref 0, .ref 3, .ref 113, .int (nI i)], [], h) = xe XP (d + 15) 180 (452, [.ref 0, .ref 3, .ref 113, .int (nI i)], [], h') ∧ LW h' n f S' := by
  obtain ⟨wb, wl, K, D, I⟩ := W
  have w0 : h[0]? = some (.inr (.inl (3, n, f))) := wb 0 (by omega)
  have hd := I.2.2.2.1.1.2.2
  have hi := I.2.2.2.1.len
  have hA := I.2.2.2.1.all
  have hT : ∀ k, k < 128 → rAt S.s (tS S.l S.s k) = lsB S.l none k := fun k _ => I.2.2.2.1.keys k
  have c7 := K.O.k
  obtain ⟨h1, e1, K1, s1⟩ := q_wipe K (d := d)
  have D1 := D.same s1 (by omega)
  have v0 : h1[0]? = some (.inr (.inl (3, n, f))) := by rw [s1.2 _ (by omega)]; exact w0
  have c8 := D1.k
  obtain ⟨h2, e2, D2, s2⟩ := q_wipeM D1 (d := d)
  have K2 := K1.same s2 (by omega)
  refine ⟨h2, _, ?_, fun i hi => (by rw [s2.2 _ (by omega), s1.2 _ (by omega)]; exact wb i hi), by rw [s2.1, s1.1]; exact wl, K2, D2, I.wipe⟩
  simp (disch := first | assumption | omega) only [e_L_law_39, e_L_law_40, e_L_law_41, e_L_law_42, e_L_law_43, nI_add, Option.bind_some, e1, e2, xbk_i, if_true]
theorem law_fault (W : LW h n f S) {i : Nat} (hi6 : i + 6 ≤ n) (hn : n < 2 ^ 31) : ∃ h' S', xe XP (d + 15) 180 (46, [.ref 0, .ref 3, .ref 113, .int (nI i)], [], h) = xe XP (d + 15) 180 (452, [.ref 0, .ref 3, .ref 113, .int (nI i)], [], h') ∧ LW h' n f S' := by
  obtain ⟨wb, wl, K, D, I⟩ := W
  have w0 : h[0]? = some (.inr (.inl (3, n, f))) := wb 0 (by omega)
  have hd := I.2.2.2.1.1.2.2
  have hi := I.2.2.2.1.len
  have hA := I.2.2.2.1.all
  have hT : ∀ k, k < 128 → rAt S.s (tS S.l S.s k) = lsB S.l none k := fun k _ => I.2.2.2.1.keys k
  have c7 := K.O.k
  obtain ⟨h1, e1, K1, s1⟩ := q_fault K (d := d)
  have D1 := D.same s1 (by omega)
  have v0 : h1[0]? = some (.inr (.inl (3, n, f))) := by rw [s1.2 _ (by omega)]; exact w0
  have c8 := D1.k
  obtain ⟨h2, e2, D2, s2⟩ := q_faultM D1 (d := d)
  have K2 := K1.same s2 (by omega)
  refine ⟨h2, _, ?_, fun i hi => (by rw [s2.2 _ (by omega), s1.2 _ (by omega)]; exact wb i hi), by rw [s2.1, s1.1]; exact wl, K2, D2, I⟩
  simp (disch := first | assumption | omega) only [e_L_law_46, e_L_law_47, e_L_law_48, e_L_law_49, e_L_law_50, nI_add, Option.bind_some, e1, e2, xbk_i, if_true]
theorem law_lay (W : LW h n f S) {i : Nat} (hi6 : i + 6 ≤ n) (hn : n < 2 ^ 31) : ∃ h' S', xe XP (d + 15) 180 (53, [.ref 0, .ref 3, .ref 113, .int (nI i)], [], h) = xe XP (d + 15) 180 (452, [.ref 0, .ref 3, .ref 113, .int (nI i)], [], h') ∧ LW h' n f S' := by
  obtain ⟨wb, wl, K, D, I⟩ := W
  have w0 : h[0]? = some (.inr (.inl (3, n, f))) := wb 0 (by omega)
  have hd := I.2.2.2.1.1.2.2
  have hi := I.2.2.2.1.len
  have hA := I.2.2.2.1.all
  have hT : ∀ k, k < 128 → rAt S.s (tS S.l S.s k) = lsB S.l none k := fun k _ => I.2.2.2.1.keys k
  have c7 := K.O.k
  obtain ⟨h1, e1, K1, s1⟩ := q_lay K (d := d)
  have D1 := D.same s1 (by omega)
  have v0 : h1[0]? = some (.inr (.inl (3, n, f))) := by rw [s1.2 _ (by omega)]; exact w0
  have c8 := D1.k
  obtain ⟨h2, e2, D2, s2⟩ := q_layM D1 (d := d)
  have K2 := K1.same s2 (by omega)
  refine ⟨h2, _, ?_, fun i hi => (by rw [s2.2 _ (by omega), s1.2 _ (by omega)]; exact wb i hi), by rw [s2.1, s1.1]; exact wl, K2, D2, I.lay⟩
  simp (disch := first | assumption | omega) only [e_L_law_53, e_L_law_54, e_L_law_55, e_L_law_56, e_L_law_57, nI_add, Option.bind_some, e1, e2, xbk_i, if_true]
theorem law_add (W : LW h n f S) {i : Nat} (hi6 : i + 6 ≤ n) (hn : n < 2 ^ 31) : ∃ h' S', xe XP (d + 15) 180 (60, [.ref 0, .ref 3, .ref 113, .int (nI i)], [], h) = xe XP (d + 15) 180 (452, [.ref 0, .ref 3, .ref 113, .int (nI i)], [], h') ∧ LW h' n f S' := by
  obtain ⟨wb, wl, K, D, I⟩ := W
  have w0 : h[0]? = some (.inr (.inl (3, n, f))) := wb 0 (by omega)
  have hd := I.2.2.2.1.1.2.2
  have hi := I.2.2.2.1.len
  have hA := I.2.2.2.1.all
  have hT : ∀ k, k < 128 → rAt S.s (tS S.l S.s k) = lsB S.l none k := fun k _ => I.2.2.2.1.keys k
  have c7 := K.O.k
  have x1 := xld_sc w0 hn (k := i + 1) (by omega)
  have x2 := xld_sc w0 hn (k := i + 2) (by omega)
  have x3 := xld_sc w0 hn (k := i + 3) (by omega)
  have x4 := xld_sc w0 hn (k := i + 4) (by omega)
  have x5 := xld_sc w0 hn (k := i + 5) (by omega)
  obtain ⟨h1, e1, K1, s1⟩ := q_add K hi (f (i + 1)) (f (i + 2)) (f (i + 3)) (f (i + 4)) (f (i + 5)) (d := d)
  have D1 := D.same s1 (by omega)
  have v0 : h1[0]? = some (.inr (.inl (3, n, f))) := by rw [s1.2 _ (by omega)]; exact w0
  have y1 := xld_sc v0 hn (k := i + 1) (by omega)
  have y2 := xld_sc v0 hn (k := i + 2) (by omega)
  have y3 := xld_sc v0 hn (k := i + 3) (by omega)
  have y4 := xld_sc v0 hn (k := i + 4) (by omega)
  have y5 := xld_sc v0 hn (k := i + 5) (by omega)
  have c8 := D1.k
  obtain ⟨h2, e2, D2, s2⟩ := q_addM D1 hd hi (f (i + 1)) (f (i + 2)) (f (i + 3)) (f (i + 4)) (f (i + 5)) (d := d)
  have K2 := K1.same s2 (by omega)
  refine ⟨h2, _, ?_, fun i hi => (by rw [s2.2 _ (by omega), s1.2 _ (by omega)]; exact wb i hi), by rw [s2.1, s1.1]; exact wl, K2, D2, I.add (f (i + 1)) (f (i + 2)) (f (i + 3)) (f (i + 4)) (f (i + 5))⟩
  simp (disch := first | assumption | omega) only [e_L_law_60, e_L_law_61, e_L_law_62, e_L_law_63, e_L_law_64, e_L_law_65, e_L_law_66, e_L_law_67, e_L_law_68, e_L_law_69, e_L_law_70, e_L_law_71, e_L_law_72, e_L_law_73, e_L_law_74, e_L_law_75, e_L_law_76, e_L_law_77, e_L_law_78, e_L_law_79, e_L_law_80, e_L_law_81, e_L_law_82, e_L_law_83, e_L_law_84, e_L_law_85, e_L_law_86, e_L_law_87, e_L_law_88, e_L_law_89, e_L_law_90, e_L_law_91, e_L_law_92, e_L_law_93, e_L_law_94, e_L_law_95, e_L_law_96, e_L_law_97, e_L_law_98, e_L_law_99, e_L_law_100, e_L_law_101, e_L_law_102, e_L_law_103, e_L_law_104, e_L_law_105, e_L_law_106, e_L_law_107, e_L_law_108, e_L_law_109, e_L_law_110, e_L_law_111, e_L_law_112, e_L_law_113, e_L_law_114, nI_add, Option.bind_some, x1, y1, x2, y2, x3, y3, x4, y4, x5, y5, e1, e2, xbk_i, if_true]
theorem law_drop (W : LW h n f S) {i : Nat} (hi6 : i + 6 ≤ n) (hn : n < 2 ^ 31) : ∃ h' S', xe XP (d + 15) 180 (117, [.ref 0, .ref 3, .ref 113, .int (nI i)], [], h) = xe XP (d + 15) 180 (452, [.ref 0, .ref 3, .ref 113, .int (nI i)], [], h') ∧ LW h' n f S' := by
  obtain ⟨wb, wl, K, D, I⟩ := W
  have w0 : h[0]? = some (.inr (.inl (3, n, f))) := wb 0 (by omega)
  have hd := I.2.2.2.1.1.2.2
  have hi := I.2.2.2.1.len
  have hA := I.2.2.2.1.all
  have hT : ∀ k, k < 128 → rAt S.s (tS S.l S.s k) = lsB S.l none k := fun k _ => I.2.2.2.1.keys k
  have c7 := K.O.k
  have x1 := xld_sc w0 hn (k := i + 1) (by omega)
  obtain ⟨h1, e1, K1, s1⟩ := q_drop K hd (f (i + 1)) (d := d)
  have D1 := D.same s1 (by omega)
  have v0 : h1[0]? = some (.inr (.inl (3, n, f))) := by rw [s1.2 _ (by omega)]; exact w0
  have y1 := xld_sc v0 hn (k := i + 1) (by omega)
  have c8 := D1.k
  obtain ⟨h2, e2, D2, s2⟩ := q_dropM D1  (f (i + 1)) (d := d)
  have K2 := K1.same s2 (by omega)
  refine ⟨h2, _, ?_, fun i hi => (by rw [s2.2 _ (by omega), s1.2 _ (by omega)]; exact wb i hi), by rw [s2.1, s1.1]; exact wl, K2, D2, I.drop (f (i + 1))⟩
  simp (disch := first | assumption | omega) only [e_L_law_117, e_L_law_118, e_L_law_119, e_L_law_120, e_L_law_121, e_L_law_122, e_L_law_123, e_L_law_124, e_L_law_125, e_L_law_126, e_L_law_127, e_L_law_128, e_L_law_129, e_L_law_130, e_L_law_131, nI_add, Option.bind_some, x1, y1, e1, e2, xbk_i, if_true]
theorem law_purge (W : LW h n f S) {i : Nat} (hi6 : i + 6 ≤ n) (hn : n < 2 ^ 31) : ∃ h' S', xe XP (d + 15) 180 (134, [.ref 0, .ref 3, .ref 113, .int (nI i)], [], h) = xe XP (d + 15) 180 (452, [.ref 0, .ref 3, .ref 113, .int (nI i)], [], h') ∧ LW h' n f S' := by
  obtain ⟨wb, wl, K, D, I⟩ := W
  have w0 : h[0]? = some (.inr (.inl (3, n, f))) := wb 0 (by omega)
  have hd := I.2.2.2.1.1.2.2
  have hi := I.2.2.2.1.len
  have hA := I.2.2.2.1.all
  have hT : ∀ k, k < 128 → rAt S.s (tS S.l S.s k) = lsB S.l none k := fun k _ => I.2.2.2.1.keys k
  have c7 := K.O.k
  obtain ⟨h1, e1, K1, s1⟩ := q_purge K hd (d := d)
  have D1 := D.same s1 (by omega)
  have v0 : h1[0]? = some (.inr (.inl (3, n, f))) := by rw [s1.2 _ (by omega)]; exact w0
  have c8 := D1.k
  obtain ⟨h2, e2, D2, s2⟩ := q_purgeM D1 hd (d := d)
  have K2 := K1.same s2 (by omega)
  refine ⟨h2, _, ?_, fun i hi => (by rw [s2.2 _ (by omega), s1.2 _ (by omega)]; exact wb i hi), by rw [s2.1, s1.1]; exact wl, K2, D2, I.purge⟩
  simp (disch := first | assumption | omega) only [e_L_law_134, e_L_law_135, e_L_law_136, e_L_law_137, e_L_law_138, nI_add, Option.bind_some, e1, e2, xbk_i, if_true]
theorem law_pack (W : LW h n f S) {i : Nat} (hi6 : i + 6 ≤ n) (hn : n < 2 ^ 31) : ∃ h' S', xe XP (d + 15) 180 (141, [.ref 0, .ref 3, .ref 113, .int (nI i)], [], h) = xe XP (d + 15) 180 (452, [.ref 0, .ref 3, .ref 113, .int (nI i)], [], h') ∧ LW h' n f S' := by
  obtain ⟨wb, wl, K, D, I⟩ := W
  have w0 : h[0]? = some (.inr (.inl (3, n, f))) := wb 0 (by omega)
  have hd := I.2.2.2.1.1.2.2
  have hi := I.2.2.2.1.len
  have hA := I.2.2.2.1.all
  have hT : ∀ k, k < 128 → rAt S.s (tS S.l S.s k) = lsB S.l none k := fun k _ => I.2.2.2.1.keys k
  have c7 := K.O.k
  obtain ⟨h1, e1, K1, s1⟩ := q_pack K hd hA (d := d)
  have D1 := D.same s1 (by omega)
  have v0 : h1[0]? = some (.inr (.inl (3, n, f))) := by rw [s1.2 _ (by omega)]; exact w0
  have c8 := D1.k
  obtain ⟨h2, e2, D2, s2⟩ := q_packM D1 hd hA (d := d)
  have K2 := K1.same s2 (by omega)
  refine ⟨h2, _, ?_, fun i hi => (by rw [s2.2 _ (by omega), s1.2 _ (by omega)]; exact wb i hi), by rw [s2.1, s1.1]; exact wl, K2, D2, I.pack⟩
  simp (disch := first | assumption | omega) only [e_L_law_141, e_L_law_142, e_L_law_143, e_L_law_144, e_L_law_145, nI_add, Option.bind_some, e1, e2, xbk_i, if_true]
theorem law_move (W : LW h n f S) {i : Nat} (hi6 : i + 6 ≤ n) (hn : n < 2 ^ 31) : ∃ h' S', xe XP (d + 15) 180 (148, [.ref 0, .ref 3, .ref 113, .int (nI i)], [], h) = xe XP (d + 15) 180 (452, [.ref 0, .ref 3, .ref 113, .int (nI i)], [], h') ∧ LW h' n f S' := by
  obtain ⟨wb, wl, K, D, I⟩ := W
  have w0 : h[0]? = some (.inr (.inl (3, n, f))) := wb 0 (by omega)
  have hd := I.2.2.2.1.1.2.2
  have hi := I.2.2.2.1.len
  have hA := I.2.2.2.1.all
  have hT : ∀ k, k < 128 → rAt S.s (tS S.l S.s k) = lsB S.l none k := fun k _ => I.2.2.2.1.keys k
  have c7 := K.O.k
  have x1 := xld_sc w0 hn (k := i + 1) (by omega)
  have x2 := xld_sc w0 hn (k := i + 2) (by omega)
  obtain ⟨h1, e1, K1, s1⟩ := q_move K  (f (i + 1)) (f (i + 2)) (d := d)
  have D1 := D.same s1 (by omega)
  have v0 : h1[0]? = some (.inr (.inl (3, n, f))) := by rw [s1.2 _ (by omega)]; exact w0
  have y1 := xld_sc v0 hn (k := i + 1) (by omega)
  have y2 := xld_sc v0 hn (k := i + 2) (by omega)
  have c8 := D1.k
  obtain ⟨h2, e2, D2, s2⟩ := q_moveM D1 hd (f (i + 1)) (f (i + 2)) (d := d)
  have K2 := K1.same s2 (by omega)
  refine ⟨h2, _, ?_, fun i hi => (by rw [s2.2 _ (by omega), s1.2 _ (by omega)]; exact wb i hi), by rw [s2.1, s1.1]; exact wl, K2, D2, I.move (f (i + 1)) (f (i + 2))⟩
  simp (disch := first | assumption | omega) only [e_L_law_148, e_L_law_149, e_L_law_150, e_L_law_151, e_L_law_152, e_L_law_153, e_L_law_154, e_L_law_155, e_L_law_156, e_L_law_157, e_L_law_158, e_L_law_159, e_L_law_160, e_L_law_161, e_L_law_162, e_L_law_163, e_L_law_164, e_L_law_165, e_L_law_166, e_L_law_167, e_L_law_168, e_L_law_169, e_L_law_170, e_L_law_171, e_L_law_172, nI_add, Option.bind_some, x1, y1, x2, y2, e1, e2, xbk_i, if_true]
theorem law_undo (W : LW h n f S) {i : Nat} (hi6 : i + 6 ≤ n) (hn : n < 2 ^ 31) : ∃ h' S', xe XP (d + 15) 180 (175, [.ref 0, .ref 3, .ref 113, .int (nI i)], [], h) = xe XP (d + 15) 180 (452, [.ref 0, .ref 3, .ref 113, .int (nI i)], [], h') ∧ LW h' n f S' := by
  obtain ⟨wb, wl, K, D, I⟩ := W
  have w0 : h[0]? = some (.inr (.inl (3, n, f))) := wb 0 (by omega)
  have hd := I.2.2.2.1.1.2.2
  have hi := I.2.2.2.1.len
  have hA := I.2.2.2.1.all
  have hT : ∀ k, k < 128 → rAt S.s (tS S.l S.s k) = lsB S.l none k := fun k _ => I.2.2.2.1.keys k
  have c7 := K.O.k
  obtain ⟨h1, e1, K1, s1⟩ := q_undo K (d := d)
  have D1 := D.same s1 (by omega)
  have v0 : h1[0]? = some (.inr (.inl (3, n, f))) := by rw [s1.2 _ (by omega)]; exact w0
  have c8 := D1.k
  obtain ⟨h2, e2, D2, s2⟩ := q_undoM D1 (d := d)
  have K2 := K1.same s2 (by omega)
  refine ⟨h2, _, ?_, fun i hi => (by rw [s2.2 _ (by omega), s1.2 _ (by omega)]; exact wb i hi), by rw [s2.1, s1.1]; exact wl, K2, D2, I.undo⟩
  simp (disch := first | assumption | omega) only [e_L_law_175, e_L_law_176, e_L_law_177, e_L_law_178, e_L_law_179, nI_add, Option.bind_some, e1, e2, xbk_i, if_true]
theorem law_rule (W : LW h n f S) {i : Nat} (hi6 : i + 6 ≤ n) (hn : n < 2 ^ 31) : ∃ h' S', xe XP (d + 15) 180 (182, [.ref 0, .ref 3, .ref 113, .int (nI i)], [], h) = xe XP (d + 15) 180 (452, [.ref 0, .ref 3, .ref 113, .int (nI i)], [], h') ∧ LW h' n f S' := by
  obtain ⟨wb, wl, K, D, I⟩ := W
  have w0 : h[0]? = some (.inr (.inl (3, n, f))) := wb 0 (by omega)
  have hd := I.2.2.2.1.1.2.2
  have hi := I.2.2.2.1.len
  have hA := I.2.2.2.1.all
  have hT : ∀ k, k < 128 → rAt S.s (tS S.l S.s k) = lsB S.l none k := fun k _ => I.2.2.2.1.keys k
  have c7 := K.O.k
  have x1 := xld_sc w0 hn (k := i + 1) (by omega)
  have x2 := xld_sc w0 hn (k := i + 2) (by omega)
  have e1 := q_rule K  (f (i + 1)) (f (i + 2)) (d := d)
  have D1 := D
  have K1 := K
  have v0 := w0
  have y1 := x1
  have y2 := x2
  have s1 := Same.refl h 3 113
  have c8 := D1.k
  have e2 := q_ruleM D1  (f (i + 1)) (f (i + 2)) (d := d)
  have D2 := D1
  have K2 := K1
  have s2 := Same.refl h 113 126
  refine ⟨h, _, ?_, fun i hi => (by rw [s2.2 _ (by omega), s1.2 _ (by omega)]; exact wb i hi), by rw [s2.1, s1.1]; exact wl, K2, D2, I⟩
  simp (disch := first | assumption | omega) only [e_L_law_182, e_L_law_183, e_L_law_184, e_L_law_185, e_L_law_186, e_L_law_187, e_L_law_188, e_L_law_189, e_L_law_190, e_L_law_191, e_L_law_192, e_L_law_193, e_L_law_194, e_L_law_195, e_L_law_196, e_L_law_197, e_L_law_198, e_L_law_199, e_L_law_200, e_L_law_201, e_L_law_202, e_L_law_203, e_L_law_204, e_L_law_205, e_L_law_206, nI_add, Option.bind_some, x1, y1, x2, y2, e1, e2, xbk_i, if_true]
theorem law_would (W : LW h n f S) {i : Nat} (hi6 : i + 6 ≤ n) (hn : n < 2 ^ 31) : ∃ h' S', xe XP (d + 15) 180 (209, [.ref 0, .ref 3, .ref 113, .int (nI i)], [], h) = xe XP (d + 15) 180 (452, [.ref 0, .ref 3, .ref 113, .int (nI i)], [], h') ∧ LW h' n f S' := by
  obtain ⟨wb, wl, K, D, I⟩ := W
  have w0 : h[0]? = some (.inr (.inl (3, n, f))) := wb 0 (by omega)
  have hd := I.2.2.2.1.1.2.2
  have hi := I.2.2.2.1.len
  have hA := I.2.2.2.1.all
  have hT : ∀ k, k < 128 → rAt S.s (tS S.l S.s k) = lsB S.l none k := fun k _ => I.2.2.2.1.keys k
  have c7 := K.O.k
  have x1 := xld_sc w0 hn (k := i + 1) (by omega)
  have x2 := xld_sc w0 hn (k := i + 2) (by omega)
  have x3 := xld_sc w0 hn (k := i + 3) (by omega)
  have x4 := xld_sc w0 hn (k := i + 4) (by omega)
  obtain ⟨h1, e1, K1, s1⟩ := q_would K hi (f (i + 1)) (f (i + 2)) (f (i + 3)) (f (i + 4)) (d := d)
  have D1 := D.same s1 (by omega)
  have v0 : h1[0]? = some (.inr (.inl (3, n, f))) := by rw [s1.2 _ (by omega)]; exact w0
  have y1 := xld_sc v0 hn (k := i + 1) (by omega)
  have y2 := xld_sc v0 hn (k := i + 2) (by omega)
  have y3 := xld_sc v0 hn (k := i + 3) (by omega)
  have y4 := xld_sc v0 hn (k := i + 4) (by omega)
  have c8 := D1.k
  obtain ⟨h2, e2, D2, s2⟩ := q_wouldM D1 hd hi (f (i + 1)) (f (i + 2)) (f (i + 3)) (f (i + 4)) (d := d)
  have K2 := K1.same s2 (by omega)
  refine ⟨h2, _, ?_, fun i hi => (by rw [s2.2 _ (by omega), s1.2 _ (by omega)]; exact wb i hi), by rw [s2.1, s1.1]; exact wl, K2, D2, I⟩
  simp (disch := first | assumption | omega) only [e_L_law_209, e_L_law_210, e_L_law_211, e_L_law_212, e_L_law_213, e_L_law_214, e_L_law_215, e_L_law_216, e_L_law_217, e_L_law_218, e_L_law_219, e_L_law_220, e_L_law_221, e_L_law_222, e_L_law_223, e_L_law_224, e_L_law_225, e_L_law_226, e_L_law_227, e_L_law_228, e_L_law_229, e_L_law_230, e_L_law_231, e_L_law_232, e_L_law_233, e_L_law_234, e_L_law_235, e_L_law_236, e_L_law_237, e_L_law_238, e_L_law_239, e_L_law_240, e_L_law_241, e_L_law_242, e_L_law_243, e_L_law_244, e_L_law_245, e_L_law_246, e_L_law_247, e_L_law_248, e_L_law_249, e_L_law_250, e_L_law_251, e_L_law_252, e_L_law_253, nI_add, Option.bind_some, x1, y1, x2, y2, x3, y3, x4, y4, e1, e2, xbk_i, if_true]
theorem law_moved (W : LW h n f S) {i : Nat} (hi6 : i + 6 ≤ n) (hn : n < 2 ^ 31) : ∃ h' S', xe XP (d + 15) 180 (256, [.ref 0, .ref 3, .ref 113, .int (nI i)], [], h) = xe XP (d + 15) 180 (452, [.ref 0, .ref 3, .ref 113, .int (nI i)], [], h') ∧ LW h' n f S' := by
  obtain ⟨wb, wl, K, D, I⟩ := W
  have w0 : h[0]? = some (.inr (.inl (3, n, f))) := wb 0 (by omega)
  have hd := I.2.2.2.1.1.2.2
  have hi := I.2.2.2.1.len
  have hA := I.2.2.2.1.all
  have hT : ∀ k, k < 128 → rAt S.s (tS S.l S.s k) = lsB S.l none k := fun k _ => I.2.2.2.1.keys k
  have c7 := K.O.k
  have x1 := xld_sc w0 hn (k := i + 1) (by omega)
  have x2 := xld_sc w0 hn (k := i + 2) (by omega)
  have e1 := q_moved K  (f (i + 1)) (f (i + 2)) (d := d)
  have D1 := D
  have K1 := K
  have v0 := w0
  have y1 := x1
  have y2 := x2
  have s1 := Same.refl h 3 113
  have c8 := D1.k
  have e2 := q_movedM D1  (f (i + 1)) (f (i + 2)) (d := d)
  have D2 := D1
  have K2 := K1
  have s2 := Same.refl h 113 126
  refine ⟨h, _, ?_, fun i hi => (by rw [s2.2 _ (by omega), s1.2 _ (by omega)]; exact wb i hi), by rw [s2.1, s1.1]; exact wl, K2, D2, I⟩
  simp (disch := first | assumption | omega) only [e_L_law_256, e_L_law_257, e_L_law_258, e_L_law_259, e_L_law_260, e_L_law_261, e_L_law_262, e_L_law_263, e_L_law_264, e_L_law_265, e_L_law_266, e_L_law_267, e_L_law_268, e_L_law_269, e_L_law_270, e_L_law_271, e_L_law_272, e_L_law_273, e_L_law_274, e_L_law_275, e_L_law_276, e_L_law_277, e_L_law_278, e_L_law_279, e_L_law_280, nI_add, Option.bind_some, x1, y1, x2, y2, e1, e2, xbk_i, if_true]
theorem law_slot (W : LW h n f S) {i : Nat} (hi6 : i + 6 ≤ n) (hn : n < 2 ^ 31) : ∃ h' S', xe XP (d + 15) 180 (283, [.ref 0, .ref 3, .ref 113, .int (nI i)], [], h) = xe XP (d + 15) 180 (452, [.ref 0, .ref 3, .ref 113, .int (nI i)], [], h') ∧ LW h' n f S' := by
  obtain ⟨wb, wl, K, D, I⟩ := W
  have w0 : h[0]? = some (.inr (.inl (3, n, f))) := wb 0 (by omega)
  have hd := I.2.2.2.1.1.2.2
  have hi := I.2.2.2.1.len
  have hA := I.2.2.2.1.all
  have hT : ∀ k, k < 128 → rAt S.s (tS S.l S.s k) = lsB S.l none k := fun k _ => I.2.2.2.1.keys k
  have c7 := K.O.k
  have x1 := xld_sc w0 hn (k := i + 1) (by omega)
  have x2 := xld_sc w0 hn (k := i + 2) (by omega)
  have e1 := q_slot K hd (f (i + 1)) (f (i + 2)) (d := d)
  have D1 := D
  have K1 := K
  have v0 := w0
  have y1 := x1
  have y2 := x2
  have s1 := Same.refl h 3 113
  have c8 := D1.k
  obtain ⟨h2, e2, D2, s2⟩ := q_slotM D1  (f (i + 1)) (f (i + 2)) (d := d)
  have K2 := K1.same s2 (by omega)
  refine ⟨h2, _, ?_, fun i hi => (by rw [s2.2 _ (by omega), s1.2 _ (by omega)]; exact wb i hi), by rw [s2.1, s1.1]; exact wl, K2, D2, I⟩
  simp (disch := first | assumption | omega) only [e_L_law_283, e_L_law_284, e_L_law_285, e_L_law_286, e_L_law_287, e_L_law_288, e_L_law_289, e_L_law_290, e_L_law_291, e_L_law_292, e_L_law_293, e_L_law_294, e_L_law_295, e_L_law_296, e_L_law_297, e_L_law_298, e_L_law_299, e_L_law_300, e_L_law_301, e_L_law_302, e_L_law_303, e_L_law_304, e_L_law_305, e_L_law_306, e_L_law_307, nI_add, Option.bind_some, x1, y1, x2, y2, e1, e2, xbk_i, if_true]
theorem law_reach (W : LW h n f S) {i : Nat} (hi6 : i + 6 ≤ n) (hn : n < 2 ^ 31) : ∃ h' S', xe XP (d + 15) 180 (310, [.ref 0, .ref 3, .ref 113, .int (nI i)], [], h) = xe XP (d + 15) 180 (452, [.ref 0, .ref 3, .ref 113, .int (nI i)], [], h') ∧ LW h' n f S' := by
  obtain ⟨wb, wl, K, D, I⟩ := W
  have w0 : h[0]? = some (.inr (.inl (3, n, f))) := wb 0 (by omega)
  have hd := I.2.2.2.1.1.2.2
  have hi := I.2.2.2.1.len
  have hA := I.2.2.2.1.all
  have hT : ∀ k, k < 128 → rAt S.s (tS S.l S.s k) = lsB S.l none k := fun k _ => I.2.2.2.1.keys k
  have c7 := K.O.k
  have x1 := xld_sc w0 hn (k := i + 1) (by omega)
  have x2 := xld_sc w0 hn (k := i + 2) (by omega)
  have e1 := q_reach K  (f (i + 1)) (f (i + 2)) (d := d)
  have D1 := D
  have K1 := K
  have v0 := w0
  have y1 := x1
  have y2 := x2
  have s1 := Same.refl h 3 113
  have c8 := D1.k
  obtain ⟨h2, e2, D2, s2⟩ := q_reachM D1 hd (f (i + 1)) (f (i + 2)) (d := d)
  have K2 := K1.same s2 (by omega)
  refine ⟨h2, _, ?_, fun i hi => (by rw [s2.2 _ (by omega), s1.2 _ (by omega)]; exact wb i hi), by rw [s2.1, s1.1]; exact wl, K2, D2, I⟩
  simp (disch := first | assumption | omega) only [e_L_law_310, e_L_law_311, e_L_law_312, e_L_law_313, e_L_law_314, e_L_law_315, e_L_law_316, e_L_law_317, e_L_law_318, e_L_law_319, e_L_law_320, e_L_law_321, e_L_law_322, e_L_law_323, e_L_law_324, e_L_law_325, e_L_law_326, e_L_law_327, e_L_law_328, e_L_law_329, e_L_law_330, e_L_law_331, e_L_law_332, e_L_law_333, e_L_law_334, nI_add, Option.bind_some, x1, y1, x2, y2, e1, e2, xbk_i, if_true]
theorem law_meet (W : LW h n f S) {i : Nat} (hi6 : i + 6 ≤ n) (hn : n < 2 ^ 31) : ∃ h' S', xe XP (d + 15) 180 (337, [.ref 0, .ref 3, .ref 113, .int (nI i)], [], h) = xe XP (d + 15) 180 (452, [.ref 0, .ref 3, .ref 113, .int (nI i)], [], h') ∧ LW h' n f S' := by
  obtain ⟨wb, wl, K, D, I⟩ := W
  have w0 : h[0]? = some (.inr (.inl (3, n, f))) := wb 0 (by omega)
  have hd := I.2.2.2.1.1.2.2
  have hi := I.2.2.2.1.len
  have hA := I.2.2.2.1.all
  have hT : ∀ k, k < 128 → rAt S.s (tS S.l S.s k) = lsB S.l none k := fun k _ => I.2.2.2.1.keys k
  have c7 := K.O.k
  have x1 := xld_sc w0 hn (k := i + 1) (by omega)
  have x2 := xld_sc w0 hn (k := i + 2) (by omega)
  have e1 := q_meet K  (f (i + 1)) (f (i + 2)) (d := d)
  have D1 := D
  have K1 := K
  have v0 := w0
  have y1 := x1
  have y2 := x2
  have s1 := Same.refl h 3 113
  have c8 := D1.k
  obtain ⟨h2, e2, D2, s2⟩ := q_meetM D1  (f (i + 1)) (f (i + 2)) (d := d)
  have K2 := K1.same s2 (by omega)
  refine ⟨h2, _, ?_, fun i hi => (by rw [s2.2 _ (by omega), s1.2 _ (by omega)]; exact wb i hi), by rw [s2.1, s1.1]; exact wl, K2, D2, I⟩
  simp (disch := first | assumption | omega) only [e_L_law_337, e_L_law_338, e_L_law_339, e_L_law_340, e_L_law_341, e_L_law_342, e_L_law_343, e_L_law_344, e_L_law_345, e_L_law_346, e_L_law_347, e_L_law_348, e_L_law_349, e_L_law_350, e_L_law_351, e_L_law_352, e_L_law_353, e_L_law_354, e_L_law_355, e_L_law_356, e_L_law_357, e_L_law_358, e_L_law_359, e_L_law_360, e_L_law_361, nI_add, Option.bind_some, x1, y1, x2, y2, e1, e2, xbk_i, if_true]
theorem law_join (W : LW h n f S) {i : Nat} (hi6 : i + 6 ≤ n) (hn : n < 2 ^ 31) : ∃ h' S', xe XP (d + 15) 180 (364, [.ref 0, .ref 3, .ref 113, .int (nI i)], [], h) = xe XP (d + 15) 180 (452, [.ref 0, .ref 3, .ref 113, .int (nI i)], [], h') ∧ LW h' n f S' := by
  obtain ⟨wb, wl, K, D, I⟩ := W
  have w0 : h[0]? = some (.inr (.inl (3, n, f))) := wb 0 (by omega)
  have hd := I.2.2.2.1.1.2.2
  have hi := I.2.2.2.1.len
  have hA := I.2.2.2.1.all
  have hT : ∀ k, k < 128 → rAt S.s (tS S.l S.s k) = lsB S.l none k := fun k _ => I.2.2.2.1.keys k
  have c7 := K.O.k
  have x1 := xld_sc w0 hn (k := i + 1) (by omega)
  have x2 := xld_sc w0 hn (k := i + 2) (by omega)
  obtain ⟨h1, e1, K1, s1⟩ := q_join K hd (f (i + 1)) (f (i + 2)) (d := d)
  have D1 := D.same s1 (by omega)
  have v0 : h1[0]? = some (.inr (.inl (3, n, f))) := by rw [s1.2 _ (by omega)]; exact w0
  have y1 := xld_sc v0 hn (k := i + 1) (by omega)
  have y2 := xld_sc v0 hn (k := i + 2) (by omega)
  have c8 := D1.k
  obtain ⟨h2, e2, D2, s2⟩ := q_joinM D1  (f (i + 1)) (f (i + 2)) (d := d)
  have K2 := K1.same s2 (by omega)
  refine ⟨h2, _, ?_, fun i hi => (by rw [s2.2 _ (by omega), s1.2 _ (by omega)]; exact wb i hi), by rw [s2.1, s1.1]; exact wl, K2, D2, I⟩
  simp (disch := first | assumption | omega) only [e_L_law_364, e_L_law_365, e_L_law_366, e_L_law_367, e_L_law_368, e_L_law_369, e_L_law_370, e_L_law_371, e_L_law_372, e_L_law_373, e_L_law_374, e_L_law_375, e_L_law_376, e_L_law_377, e_L_law_378, e_L_law_379, e_L_law_380, e_L_law_381, e_L_law_382, e_L_law_383, e_L_law_384, e_L_law_385, e_L_law_386, e_L_law_387, e_L_law_388, nI_add, Option.bind_some, x1, y1, x2, y2, e1, e2, xbk_i, if_true]
theorem law_key (W : LW h n f S) {i : Nat} (hi6 : i + 6 ≤ n) (hn : n < 2 ^ 31) : ∃ h' S', xe XP (d + 15) 180 (391, [.ref 0, .ref 3, .ref 113, .int (nI i)], [], h) = xe XP (d + 15) 180 (452, [.ref 0, .ref 3, .ref 113, .int (nI i)], [], h') ∧ LW h' n f S' := by
  obtain ⟨wb, wl, K, D, I⟩ := W
  have w0 : h[0]? = some (.inr (.inl (3, n, f))) := wb 0 (by omega)
  have hd := I.2.2.2.1.1.2.2
  have hi := I.2.2.2.1.len
  have hA := I.2.2.2.1.all
  have hT : ∀ k, k < 128 → rAt S.s (tS S.l S.s k) = lsB S.l none k := fun k _ => I.2.2.2.1.keys k
  have c7 := K.O.k
  have x1 := xld_sc w0 hn (k := i + 1) (by omega)
  have x2 := xld_sc w0 hn (k := i + 2) (by omega)
  have e1 := q_key K hd (f (i + 1)) (f (i + 2)) (d := d)
  have D1 := D
  have K1 := K
  have v0 := w0
  have y1 := x1
  have y2 := x2
  have s1 := Same.refl h 3 113
  have c8 := D1.k
  obtain ⟨h2, e2, D2, s2⟩ := q_keyM D1  (f (i + 1)) (f (i + 2)) (d := d)
  have K2 := K1.same s2 (by omega)
  refine ⟨h2, _, ?_, fun i hi => (by rw [s2.2 _ (by omega), s1.2 _ (by omega)]; exact wb i hi), by rw [s2.1, s1.1]; exact wl, K2, D2, I⟩
  simp (disch := first | assumption | omega) only [e_L_law_391, e_L_law_392, e_L_law_393, e_L_law_394, e_L_law_395, e_L_law_396, e_L_law_397, e_L_law_398, e_L_law_399, e_L_law_400, e_L_law_401, e_L_law_402, e_L_law_403, e_L_law_404, e_L_law_405, e_L_law_406, e_L_law_407, e_L_law_408, e_L_law_409, e_L_law_410, e_L_law_411, e_L_law_412, e_L_law_413, e_L_law_414, e_L_law_415, nI_add, Option.bind_some, x1, y1, x2, y2, e1, e2, xbk_i, if_true]
theorem law_keys (W : LW h n f S) {i : Nat} (hi6 : i + 6 ≤ n) (hn : n < 2 ^ 31) : ∃ h' S', xe XP (d + 15) 180 (418, [.ref 0, .ref 3, .ref 113, .int (nI i)], [], h) = xe XP (d + 15) 180 (452, [.ref 0, .ref 3, .ref 113, .int (nI i)], [], h') ∧ LW h' n f S' := by
  obtain ⟨wb, wl, K, D, I⟩ := W
  have w0 : h[0]? = some (.inr (.inl (3, n, f))) := wb 0 (by omega)
  have hd := I.2.2.2.1.1.2.2
  have hi := I.2.2.2.1.len
  have hA := I.2.2.2.1.all
  have hT : ∀ k, k < 128 → rAt S.s (tS S.l S.s k) = lsB S.l none k := fun k _ => I.2.2.2.1.keys k
  have c7 := K.O.k
  have x1 := xld_sc w0 hn (k := i + 1) (by omega)
  have e1 := q_keys K hd (f (i + 1)) (d := d)
  have D1 := D
  have K1 := K
  have v0 := w0
  have y1 := x1
  have s1 := Same.refl h 3 113
  have c8 := D1.k
  obtain ⟨h2, e2, D2, s2⟩ := q_keysM D1 hT (f (i + 1)) (d := d)
  have K2 := K1.same s2 (by omega)
  refine ⟨h2, _, ?_, fun i hi => (by rw [s2.2 _ (by omega), s1.2 _ (by omega)]; exact wb i hi), by rw [s2.1, s1.1]; exact wl, K2, D2, I⟩
  simp (disch := first | assumption | omega) only [e_L_law_418, e_L_law_419, e_L_law_420, e_L_law_421, e_L_law_422, e_L_law_423, e_L_law_424, e_L_law_425, e_L_law_426, e_L_law_427, e_L_law_428, e_L_law_429, e_L_law_430, e_L_law_431, e_L_law_432, nI_add, Option.bind_some, x1, y1, e1, e2, xbk_i, if_true]
theorem law_count (W : LW h n f S) {i : Nat} (hi6 : i + 6 ≤ n) (hn : n < 2 ^ 31) : ∃ h' S', xe XP (d + 15) 180 (435, [.ref 0, .ref 3, .ref 113, .int (nI i)], [], h) = xe XP (d + 15) 180 (452, [.ref 0, .ref 3, .ref 113, .int (nI i)], [], h') ∧ LW h' n f S' := by
  obtain ⟨wb, wl, K, D, I⟩ := W
  have w0 : h[0]? = some (.inr (.inl (3, n, f))) := wb 0 (by omega)
  have hd := I.2.2.2.1.1.2.2
  have hi := I.2.2.2.1.len
  have hA := I.2.2.2.1.all
  have hT : ∀ k, k < 128 → rAt S.s (tS S.l S.s k) = lsB S.l none k := fun k _ => I.2.2.2.1.keys k
  have c7 := K.O.k
  have x1 := xld_sc w0 hn (k := i + 1) (by omega)
  have e1 := q_count K hd (f (i + 1)) (d := d)
  have D1 := D
  have K1 := K
  have v0 := w0
  have y1 := x1
  have s1 := Same.refl h 3 113
  have c8 := D1.k
  obtain ⟨h2, e2, D2, s2⟩ := q_countM D1  (f (i + 1)) (d := d)
  have K2 := K1.same s2 (by omega)
  refine ⟨h2, _, ?_, fun i hi => (by rw [s2.2 _ (by omega), s1.2 _ (by omega)]; exact wb i hi), by rw [s2.1, s1.1]; exact wl, K2, D2, I⟩
  simp (disch := first | assumption | omega) only [e_L_law_435, e_L_law_436, e_L_law_437, e_L_law_438, e_L_law_439, e_L_law_440, e_L_law_441, e_L_law_442, e_L_law_443, e_L_law_444, e_L_law_445, e_L_law_446, e_L_law_447, e_L_law_448, e_L_law_449, nI_add, Option.bind_some, x1, y1, e1, e2, xbk_i, if_true]
end LawR
