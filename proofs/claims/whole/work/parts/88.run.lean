/-! ===== the law's run over the abstract machine ===== -/
theorem am_N_le {sc : Nat × (Nat → Int32)} : am_Cle (am_N sc) := by
  intro m As h v h' e
  rcases e with ⟨-, t, x, -, -, -, rfl⟩ | ⟨-, t, j, x, -, -, -, rfl⟩ | ⟨-, x, p0, p1, p2, p3, o, n, f, fs, -, h1, h2, h3, h4⟩
  · exact ⟨am_le.rf, id⟩
  · exact ⟨am_le.rf, id⟩
  · split at h4
    · obtain ⟨-, rfl⟩ := h4
      exact ⟨am_le_set h2 rfl, fun z => by simpa using z⟩
    · obtain ⟨-, hl, rfl⟩ := h4
      exact ⟨am_le_push _ _, fun _ => by simp; omega⟩
theorem law_run {sc : Nat × (Nat → Int32)} (hs3 : sc.1 ≤ 3584) : ∃ (n : Nat) (f : am_F) (h' : am_H), am_rch sc (am_Cl am_T am_N sc 76) (am_at kL_law) n ((0, [some (.ref 2000000), none, none, none, none, none, none], []), []) (f, h') ∧ am_ret 2 (am_at kL_law) f = some (some (.int 1)) ∧ h'.length ≤ 752 ∧ am_sl h' ≤ 103078 := by
  obtain ⟨h', e1, e2, e3⟩ := law_end hs3
  obtain ⟨⟨f, h1⟩, ⟨n, g1⟩, g2, g3⟩ := lL_law e1
  have g2 : h1 = h' := g2
  subst g2
  exact ⟨n, f, h1, g1, g3, e2, e3⟩
