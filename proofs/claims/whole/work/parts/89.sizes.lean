/-! HOW LARGE the cells are -/
def Szd (h : XH) (lo hi : Nat) : Prop := ∀ i, lo ≤ i → i < hi → ∃ c, h[i]? = some c ∧ xsz c ≤ 1000
theorem Szd.one {h : XH} {t : Nat} {c : XC} (e : h[t]? = some c) (hz : xsz c ≤ 1000) : Szd h t (t + 1) := fun i h1 h2 => by
  rw [show i = t by omega]
  exact ⟨c, e, hz⟩
theorem Szd.app {h : XH} {a b c : Nat} (x : Szd h a b) (y : Szd h b c) : Szd h a c := fun i h1 h2 => by
  by_cases g : i < b
  · exact x i h1 g
  · exact y i (by omega) h2
section SzdR
variable {h : XH} {c : Nat} {S : CS}
theorem Tab.z {t : Nat} {R P C V : Nat → Int32} (T : Tab h t R P C V) : Szd h t (t + 5) := ((((Szd.one T.1 (by show 4 ≤ 1000; omega)).app (Szd.one T.2.1 (by show 17 ≤ 1000; omega))).app (Szd.one T.2.2.1 (by show 17 ≤ 1000; omega))).app (Szd.one T.2.2.2.1 (by show 17 ≤ 1000; omega))).app (Szd.one T.2.2.2.2 (by show 17 ≤ 1000; omega))
theorem Lst.z {r : Nat} {l : List Rl} (L : Lst h r l) : Szd h r (r + 8) := by
  obtain ⟨a, b, e, K, H, Hc, Hv, F, La, A, e1, e2, e3, e4, e5, e6, e7, z⟩ := L
  exact (((((((Szd.one e (by show 8 ≤ 1000; omega)).app (Szd.one e1 (by show 16 ≤ 1000; omega))).app (Szd.one e2 (by show 16 ≤ 1000; omega))).app (Szd.one e3 (by show 16 ≤ 1000; omega))).app (Szd.one e4 (by show 16 ≤ 1000; omega))).app (Szd.one e5 (by show 16 ≤ 1000; omega))).app (Szd.one e6 (by show 16 ≤ 1000; omega))).app (Szd.one e7 (by show 16 ≤ 1000; omega))
theorem Bd.z {b : Nat} {l : List Rl} {R P C V : Nat → Int32} (B : Bd h b l R P C V) : Szd h b (b + 14) := ((Szd.one B.1 (by show 2 ≤ 1000; omega)).app B.2.1.z).app B.2.2.z
theorem Brd.z {b : Nat} {l : List Rl} {σ : Sl} (B : Brd h b l σ) : Szd h b (b + 14) := by
  obtain ⟨R, P, C, V, B, -⟩ := B
  exact B.z
theorem Bdx.z {b : Nat} (B : Bdx h b) : Szd h b (b + 14) := by
  obtain ⟨l, R, P, C, V, B⟩ := B
  exact B.z
theorem Txt.z {x : Nat} {tx : List Nat} (T : Txt h x tx) : Szd h x (x + 2) := by
  obtain ⟨a, b, e, f, e2, z⟩ := T
  exact (Szd.one e (by show 2 ≤ 1000; omega)).app (Szd.one e2 (by show 200 ≤ 1000; omega))
theorem Log.z {x : Nat} {ms : Mvs} (T : Log h x ms) : Szd h x (x + 3) := by
  obtain ⟨a, e, F, T, e2, e3, z⟩ := T
  exact ((Szd.one e (by show 3 ≤ 1000; omega)).app (Szd.one e2 (by show 18 ≤ 1000; omega))).app (Szd.one e3 (by show 18 ≤ 1000; omega))
theorem Pst.z {p nx sz : Nat} {pb : Nat → Bst} (Q : Pst h p nx sz pb) : Szd h p (p + 72) :=
  ((((((Szd.one Q.2.2.1 (by show 3 ≤ 1000; omega)).app (Szd.one Q.2.2.2.1 (by show 5 ≤ 1000; omega))).app (Q.2.2.2.2 0 (by omega)).z).app (Q.2.2.2.2 1 (by omega)).z).app (Q.2.2.2.2 2 (by omega)).z).app (Q.2.2.2.2 3 (by omega)).z).app (Q.2.2.2.2 4 (by omega)).z
theorem Rdx.z {z : Nat} (R : Rdx h z) : Szd h z (z + 1) := by
  obtain ⟨v0, v1, v2, v3, v4, v5, e⟩ := R
  exact Szd.one e (by show 6 ≤ 1000; omega)
theorem Cr.z (K : Cr h c S) : Szd h c (c + 110) := by
  obtain ⟨ms, N⟩ := K.N
  exact (((((((Szd.one K.O (by show 7 ≤ 1000; omega)).app K.X.z).app K.Z.z).app K.B.z).app K.T.z).app K.M.z).app N.z).app K.Q.z
theorem Md.z {m : Nat} (K : Md h m S) : Szd h m (m + 13) := by
  obtain ⟨b0, ⟨ra, nu, nr, nm, M⟩, ⟨f, A, L, R⟩, ⟨c, C, hC⟩, ⟨f3, F3⟩, ⟨g, G⟩, ⟨t, X, hX⟩, ⟨b, Bo⟩, ⟨T, T7⟩, ⟨F8, F9, M8, M9, hM⟩, ⟨F10, F11, M10, M11⟩, ⟨f12, M12⟩⟩ := K
  exact ((((((((((((Szd.one M (by show 20 ≤ 1000; omega)).app (Szd.one A (by show 113 ≤ 1000; omega))).app (Szd.one C (by show 565 ≤ 1000; omega))).app (Szd.one F3 (by show 113 ≤ 1000; omega))).app (Szd.one G (by show 16 ≤ 1000; omega))).app (Szd.one X (by show 200 ≤ 1000; omega))).app (Szd.one Bo (by show 100 ≤ 1000; omega))).app (Szd.one T7 (by show 3 ≤ 1000; omega))).app (Szd.one M8 (by show 48 ≤ 1000; omega))).app (Szd.one M9 (by show 48 ≤ 1000; omega))).app (Szd.one M10 (by show 48 ≤ 1000; omega))).app (Szd.one M11 (by show 48 ≤ 1000; omega))).app (Szd.one M12 (by show 113 ≤ 1000; omega))
end SzdR
theorem sz_sum : ∀ l : XH, (∀ (i : Nat) (c : XC), l[i]? = some c → xsz c ≤ 1000) → (l.map xsz).sum ≤ 1000 * l.length
  | [], _ => by simp
  | c :: l, hz => by
    have h1 := hz 0 c rfl
    have h2 := sz_sum l (fun i x hx => hz (i + 1) x hx)
    simp only [List.map_cons, List.sum_cons, List.length_cons]
    omega
theorem LW.size {h : XH} {n : Nat} {f : Nat → Int32} {S : CS} (W : LW h n f S) : xsl h ≤ xsl (B3 n f) + 123000 := by
  obtain ⟨wb, wl, K, D, -⟩ := W
  have hz : Szd h 3 126 := K.z.app D.z
  have ht : h.take 3 = B3 n f := by
    refine List.ext_getElem? (fun i => ?_)
    by_cases g : i < 3
    · rw [List.getElem?_take_of_lt g]
      exact wb i g
    · rw [List.getElem?_eq_none (by rw [List.length_take]; omega), List.getElem?_eq_none (by show 3 ≤ i; omega)]
  have hd := sz_sum (h.drop 3) (fun i c e => by
    rw [List.getElem?_drop] at e
    have hi := (List.getElem?_eq_some_iff.mp e).1
    obtain ⟨c', e', z⟩ := hz (3 + i) (by omega) (by omega)
    rw [e] at e'
    cases e'
    exact z)
  rw [List.length_drop, wl] at hd
  have e : xsl h = xsl (h.take 3) + xsl (h.drop 3) := by
    unfold xsl
    rw [← List.sum_append, ← List.map_append, List.take_append_drop]
  rw [e, ht]
  have e2 : xsl (h.drop 3) = ((h.drop 3).map xsz).sum := rfl
  omega
