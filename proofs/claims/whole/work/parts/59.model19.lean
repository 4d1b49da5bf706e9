/-! THE MODEL: its whole state -/
def rgI (S : CS) (j : Nat) : Nat := (S.nx + 4 - j) % 5
def Md (h : XH) (m : Nat) (S : CS) : Prop := (S.nx < 5 ∧ S.sz ≤ 5 ∧ S.tx.length ≤ 200 ∧ (∀ c ∈ S.tx, c < 1000) ∧ S.ms.length ≤ 48) ∧
  (∃ ra nu nr nm, MdO h m (nI S.sz) (nI S.nx) (nI S.tx.length) ra nu nr (nI S.ms.length) nm) ∧
  (∃ f, h[m + 1]? = some (ia 113 f) ∧ RwL f S.l ∧ RwS f S.l S.s) ∧
  (∃ c, h[m + 2]? = some (ia 565 c) ∧ ∀ j, j < S.sz → RwL (fun k => c (113 * rgI S j + k)) (S.pb (rgI S j)).1 ∧ RwS (fun k => c (113 * rgI S j + k)) (S.pb (rgI S j)).1 (S.pb (rgI S j)).2) ∧
  (∃ f, h[m + 3]? = some (ia 113 f)) ∧ (∃ g, h[m + 4]? = some (ia 16 g)) ∧
  (∃ t, h[m + 5]? = some (ia 200 t) ∧ ∀ j c, S.tx[j]? = some c → t j = nI c) ∧
  (∃ b, h[m + 6]? = some (.inr (.inl (1, 100, b)))) ∧ (∃ T, h[m + 7]? = some (ia 3 T)) ∧
  (∃ F T, h[m + 8]? = some (ia 48 F) ∧ h[m + 9]? = some (ia 48 T) ∧ ∀ j q, S.ms[j]? = some q → F j = nI q.1 ∧ T j = nI q.2) ∧
  (∃ F T, h[m + 10]? = some (ia 48 F) ∧ h[m + 11]? = some (ia 48 T)) ∧ (∃ f, h[m + 12]? = some (ia 113 f))
section Md13R
variable {h : XH} {m : Nat} {S : CS} {d : Nat}
theorem MdO.w7 {cm ca lm ra nu nr mm nm : Int32} (M : MdO h m cm ca lm ra nu nr mm nm) (y : Int32) : ∃ h', xpf h m 8 7 (.int y) = some h' ∧ MdO h' m cm ca y ra nu nr mm nm ∧ Same h h' m (m + 1) :=
  ⟨_, xpf_o M (k := 7) (by simp) _, get_set M _, (Same.refl _ _ _).set (by omega) (by omega) _⟩
theorem q_wipeM (K : Md h m S) : ∃ h', xc XP (d + 14) 129 [.ref m] h = some (some (.int (aWipe S).1), h') ∧ Md h' m (aWipe S).2 ∧ Same h h' m (m + 13) := by
  obtain ⟨⟨b1, b2, b3, b4, b5⟩, ⟨ra, nu, nr, nm, M⟩, ⟨f, A, L, R⟩, ⟨c, C, hC⟩, ⟨f3, F3⟩, ⟨g, G⟩, ⟨t, X, hX⟩, ⟨b, Bo⟩, ⟨T, T7⟩, ⟨F8, F9, M8, M9, hM⟩, ⟨F10, F11, M10, M11⟩, ⟨f12, M12⟩⟩ := K
  obtain ⟨h1, e1, M1, s1⟩ := M.w7 (nI 0)
  refine ⟨h1, ?_, ⟨⟨b1, b2, Nat.zero_le _, fun c hc => (by cases hc), b5⟩, ⟨ra, nu, nr, nm, M1⟩, ⟨f, by rw [s1.2 _ (by omega)]; exact A, L, R⟩, ⟨c, by rw [s1.2 _ (by omega)]; exact C, hC⟩, ⟨f3, by rw [s1.2 _ (by omega)]; exact F3⟩, ⟨g, by rw [s1.2 _ (by omega)]; exact G⟩, ⟨t, by rw [s1.2 _ (by omega)]; exact X, fun j c hj => (by cases hj)⟩, ⟨b, by rw [s1.2 _ (by omega)]; exact Bo⟩, ⟨T, by rw [s1.2 _ (by omega)]; exact T7⟩, ⟨F8, F9, by rw [s1.2 _ (by omega)]; exact M8, by rw [s1.2 _ (by omega)]; exact M9, hM⟩, ⟨F10, F11, by rw [s1.2 _ (by omega)]; exact M10, by rw [s1.2 _ (by omega)]; exact M11⟩, ⟨f12, by rw [s1.2 _ (by omega)]; exact M12⟩⟩, s1.weak (by omega) (by omega)⟩
  rw [n_X8_wipe]
  simp only [e_X8_wipe_0, e_X8_wipe_1, e_X8_wipe_2, e_X8_wipe_3, e_X8_wipe_4, e_X8_wipe_5, e_X8_wipe_6, e_X8_wipe_7, M.f7, Option.bind_some, e1]
  rfl
end Md13R
