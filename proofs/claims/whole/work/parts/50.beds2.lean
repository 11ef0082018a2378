/-! ===== PURE: beds, the search ===== -/
section
variable {v nh nd st a b n m : Nat} {V : Nat → Nat → Nat} {S : Nat → Nat → Int32} {t0 t0' t t' : tS}
theorem RC.un {K x : Nat} {T : tS} {c c' : Bool} (h : RC t nh K x T c) (h' : RC t nh K x T c') (hm : mb t nh x nh = true) : c = c' := by
  obtain ⟨T1, T2, T3, a1, a2, _, _, a5⟩ := h
  obtain ⟨U1, U2, U3, b1, b2, _, _, b5⟩ := h'
  rw [a1] at b1
  obtain ⟨_, rfl⟩ := am_inj2 b1
  rw [a2] at b2
  obtain ⟨_, rfl⟩ := am_inj2 b2
  have e1 := (a5 hm).1
  rw [(b5 hm).1] at e1
  obtain ⟨e, _⟩ := am_inj2 e1
  cases c <;> cases c' <;> first | rfl | exact absurd e (by decide)
theorem RM.un {K x : Nat} {T : tS} {c c' : Bool} (h : RM t t' nh K x T c) (h' : RM t t' nh K x T c') (hm : mb t nh x nh = true) : c = c' := by
  obtain ⟨T1, T2, T3, a1, a2, _, a5⟩ := h 0 0 0 0
  obtain ⟨U1, U2, U3, b1, b2, _, b5⟩ := h' 0 0 0 0
  rw [a1] at b1
  cases b1
  rw [a2] at b2
  obtain ⟨_, _, rfl⟩ := am_inj3 b2
  have e1 := (a5 hm).1
  rw [(b5 hm).1] at e1
  obtain ⟨e, _⟩ := am_inj2 e1
  cases c <;> cases c' <;> first | rfl | exact absurd e (by decide)
/-- which rows serve: one word for both -/
theorem bed_ok {w p q N K : Nat} (h : GP v w p q nh nd st V N t t') (hK : K < 100) : ∃ cf : Nat → Bool, (∀ x T, x < 1000 → YQ t T → RC t nh K x T (cf x)) ∧ (∀ x T', x < 1000 → ZQ t' T' → RM t t' nh K x T' (cf x)) := by
  have h0 : ∀ x, ∃ c, x < 1000 → RC t nh K x t c ∧ RM t t' nh K x t' c := by
    intro x
    by_cases hx : x < 1000
    · obtain ⟨c, e⟩ := bed1 h hK hx YQ.rf ZQ.rf
      exact ⟨c, fun _ => e⟩
    · exact ⟨false, fun z => absurd z hx⟩
  obtain ⟨cf, hcf⟩ := Classical.axiomOfChoice h0
  refine ⟨cf, ?_, ?_⟩
  · intro x T hx hy
    obtain ⟨c, e1, e2⟩ := bed1 h hK hx hy ZQ.rf
    cases hm : mb t nh x nh
    · obtain ⟨T1, T2, T3, a1, a2, a3, a4, a5⟩ := e1
      exact ⟨T1, T2, T3, a1, a2, a3, a4, fun z => by rw [hm] at z; cases z⟩
    · have e := RM.un e2 (hcf x hx).2 hm
      rw [← e]
      exact e1
  · intro x T' hx hz
    obtain ⟨c, e1, e2⟩ := bed1 h hK hx YQ.rf hz
    cases hm : mb t nh x nh
    · intro a2 a3 a4 a5
      obtain ⟨T1, T2, T3, b1, b2, b3, b4⟩ := e2 a2 a3 a4 a5
      exact ⟨T1, T2, T3, b1, b2, b3, fun z => by rw [hm] at z; cases z⟩
    · have e := RC.un e1 (hcf x hx).1 hm
      rw [← e]
      exact e2
/-- a row serves -/
def okr (t : tS) (nh : Nat) (cf : Nat → Bool) (x : Nat) : Bool := mb t nh x nh && cf x
theorem clL {w p q N K R s : Nat} (h : GP v w p q nh nd st V N t t') (hR : R ≤ 81) (hs : s ≤ 8) {cf : Nat → Bool} (hc : ∀ x T, x < 1000 → YQ t T → RC t nh K x T (cf x)) : ∀ (k x f : Nat) (T : tS), x + k = R → YQ t T → k < f → (∃ T1, tX9_fewestBeds_L43 f (nI K) (nI R) (nI s) (nI x) T = some (.inl T1) ∧ YQ t T1 ∧ ∀ y, x ≤ y → y < R → dsm nh y = s → okr t nh cf y = false) ∨ (∃ y T1, x ≤ y ∧ y < R ∧ dsm nh y = s ∧ okr t nh cf y = true ∧ (∀ z, x ≤ z → z < y → dsm nh z = s → okr t nh cf z = false) ∧ tX9_fewestBeds_L43 f (nI K) (nI R) (nI s) (nI x) T = some (.inr (nI s, T1)) ∧ YQ t T1 ∧ RW9 nh y T1) := by
  have h4 := h.h4
  intro k
  induction k with
  | zero =>
    intro x f T hx hy hf
    obtain ⟨f, rfl⟩ : ∃ g, f = g + 1 := ⟨f - 1, by omega⟩
    obtain rfl : x = R := by omega
    rw [tX9_fewestBeds_L43]
    simp (disch := omega) only [tA_e, tA_l, tW0_e, tW0_l, nN_al, nN_la, nN_ad, nN_lm, nN_ml, nN_le, nN_lt, nN_eq, nN_lel, nN_lle, nN_ltl, nN_llt, nN_eql, nN_rm, nN_dv, ob_s, ob_2, ob_3, ite_true, ite_false, not_true_eq_false, not_false_eq_true, ite_self, eq_self, Nat.add_zero, Nat.le_refl]
    exact .inl ⟨_, rfl, hy, fun y _ _ => by omega⟩
  | succ k ih =>
    intro x f T hx hy hf
    obtain ⟨f, rfl⟩ : ∃ g, f = g + 1 := ⟨f - 1, by omega⟩
    have c1 : ¬ R ≤ x := by omega
    have dl := dsm_le nh x
    obtain ⟨T1, T2, T3, a1, a2, a3, a4, a5⟩ := hc x T (by omega) hy
    rw [tX9_fewestBeds_L43]
    simp (disch := omega) only [tA_e, tA_l, tW0_e, tW0_l, nN_al, nN_la, nN_ad, nN_lm, nN_ml, nN_le, nN_lt, nN_eq, nN_lel, nN_lle, nN_ltl, nN_llt, nN_eql, nN_rm, nN_dv, ob_s, ob_2, ob_3, ite_true, ite_false, not_true_eq_false, not_false_eq_true, ite_self, eq_self, Nat.add_zero, c1, a1]
    have step : ∀ U, YQ t U → (dsm nh x = s → okr t nh cf x = false) → (∃ T1, tX9_fewestBeds_L43 f (nI K) (nI R) (nI s) (nI (x + 1)) U = some (.inl T1) ∧ YQ t T1 ∧ ∀ y, x ≤ y → y < R → dsm nh y = s → okr t nh cf y = false) ∨ (∃ y T1, x ≤ y ∧ y < R ∧ dsm nh y = s ∧ okr t nh cf y = true ∧ (∀ z, x ≤ z → z < y → dsm nh z = s → okr t nh cf z = false) ∧ tX9_fewestBeds_L43 f (nI K) (nI R) (nI s) (nI (x + 1)) U = some (.inr (nI s, T1)) ∧ YQ t T1 ∧ RW9 nh y T1) := by
      intro U hU hno
      rcases ih (x + 1) f U (by omega) hU (by omega) with ⟨W, w1, w2, w3⟩ | ⟨y, W, w1, w2, w3, w4, w5, w6, w7, w8⟩
      · refine .inl ⟨W, w1, w2, fun y h1 h2 h3 => ?_⟩
        by_cases c : y = x
        · subst c
          exact hno h3
        · exact w3 y (by omega) h2 h3
      · refine .inr ⟨y, W, by omega, w2, w3, w4, fun z h1 h2 h3 => ?_, w6, w7, w8⟩
        by_cases c : z = x
        · subst c
          exact hno h3
        · exact w5 z (by omega) h2 h3
    by_cases c2 : dsm nh x = s
    · cases hm : mb t nh x nh
      · rw [hm] at a2
        simp only [tA_e, tA_l, tW0_e, tW0_l, nN_al, nN_la, nN_ad, nN_lm, nN_ml, nN_le, nN_lt, nN_eq, nN_lel, nN_lle, nN_ltl, nN_llt, nN_eql, nN_rm, nN_dv, ob_s, ob_2, ob_3, ite_true, ite_false, not_true_eq_false, not_false_eq_true, ite_self, eq_self, Nat.add_zero, eq_true c2, a2, bI_0]
        exact step T2 a4 (fun _ => by unfold okr; rw [hm]; rfl)
      · rw [hm] at a2
        obtain ⟨b1, b2, b3⟩ := a5 hm
        simp only [tA_e, tA_l, tW0_e, tW0_l, nN_al, nN_la, nN_ad, nN_lm, nN_ml, nN_le, nN_lt, nN_eq, nN_lel, nN_lle, nN_ltl, nN_llt, nN_eql, nN_rm, nN_dv, ob_s, ob_2, ob_3, ite_true, ite_false, not_true_eq_false, not_false_eq_true, ite_self, eq_self, Nat.add_zero, eq_true c2, a2, bI_0, Bool.true_eq_false, b1]
        cases hcf : cf x
        · simp only [tA_e, tA_l, tW0_e, tW0_l, nN_al, nN_la, nN_ad, nN_lm, nN_ml, nN_le, nN_lt, nN_eq, nN_lel, nN_lle, nN_ltl, nN_llt, nN_eql, nN_rm, nN_dv, ob_s, ob_2, ob_3, ite_true, ite_false, not_true_eq_false, not_false_eq_true, ite_self, eq_self, Nat.add_zero]
          exact step T3 b2 (fun _ => by unfold okr; rw [hm, hcf]; rfl)
        · simp only [tA_e, tA_l, tW0_e, tW0_l, nN_al, nN_la, nN_ad, nN_lm, nN_ml, nN_le, nN_lt, nN_eq, nN_lel, nN_lle, nN_ltl, nN_llt, nN_eql, nN_rm, nN_dv, ob_s, ob_2, ob_3, ite_true, ite_false, not_true_eq_false, not_false_eq_true, ite_self, eq_self, Nat.add_zero, Bool.true_eq_false]
          exact .inr ⟨x, T3, Nat.le_refl _, by omega, c2, by unfold okr; rw [hm, hcf]; rfl, fun z h1 h2 => by omega, rfl, b2, b3⟩
    · simp only [tA_e, tA_l, tW0_e, tW0_l, nN_al, nN_la, nN_ad, nN_lm, nN_ml, nN_le, nN_lt, nN_eq, nN_lel, nN_lle, nN_ltl, nN_llt, nN_eql, nN_rm, nN_dv, ob_s, ob_2, ob_3, ite_true, ite_false, not_true_eq_false, not_false_eq_true, ite_self, eq_self, Nat.add_zero, c2]
      exact step T1 a3 (fun z => absurd z c2)
/-- the least of the fewest -/
def bst (nh R : Nat) (ok : Nat → Bool) (b : Nat) : Prop := b < R ∧ ok b = true ∧ ∀ y, y < R → ok y = true → dsm nh b ≤ dsm nh y ∧ (dsm nh y = dsm nh b → b ≤ y)
theorem clS {w p q N K R : Nat} (h : GP v w p q nh nd st V N t t') (hR : R ≤ 81) {cf : Nat → Bool} (hc : ∀ x T, x < 1000 → YQ t T → RC t nh K x T (cf x)) : ∀ (k s f : Nat) (T : tS), s + k = 2 * nh + 1 → YQ t T → (∀ y, y < R → okr t nh cf y = true → s ≤ dsm nh y) → k < f → (∃ T1, tX9_fewestBeds_L27 f (nI K) (nI R) (nI s) T = some (.inl T1) ∧ YQ t T1 ∧ ∀ y, y < R → okr t nh cf y = false) ∨ (∃ b T1, bst nh R (okr t nh cf) b ∧ tX9_fewestBeds_L27 f (nI K) (nI R) (nI s) T = some (.inr (nI (dsm nh b), T1)) ∧ YQ t T1 ∧ RW9 nh b T1) := by
  have h4 := h.h4
  intro k
  induction k with
  | zero =>
    intro s f T hs hy hn hf
    obtain ⟨f, rfl⟩ : ∃ g, f = g + 1 := ⟨f - 1, by omega⟩
    have rv : T.2.2.2.2 0 9 = v := (h.q hy ZQ.rf).2.2.1.1
    have ch : T.1 v 11 = nI nh := (h.q hy ZQ.rf).2.2.2.1.2.2.1.1
    have c1 : 2 * nh < s := by omega
    rw [tX9_fewestBeds_L27]
    simp (disch := omega) only [tA_e, tA_l, tW0_e, tW0_l, nN_al, nN_la, nN_ad, nN_lm, nN_ml, nN_le, nN_lt, nN_eq, nN_lel, nN_lle, nN_ltl, nN_llt, nN_eql, nN_rm, nN_dv, ob_s, ob_2, ob_3, ite_true, ite_false, not_true_eq_false, not_false_eq_true, ite_self, eq_self, Nat.add_zero, rv, ch, c1]
    refine .inl ⟨_, rfl, hy, fun y h2 => ?_⟩
    cases e : okr t nh cf y
    · rfl
    · have := hn y h2 e
      have := dsm_le nh y
      omega
  | succ k ih =>
    intro s f T hs hy hn hf
    obtain ⟨f, rfl⟩ : ∃ g, f = g + 1 := ⟨f - 1, by omega⟩
    have rv : T.2.2.2.2 0 9 = v := (h.q hy ZQ.rf).2.2.1.1
    have ch : T.1 v 11 = nI nh := (h.q hy ZQ.rf).2.2.2.1.2.2.1.1
    have c1 : ¬ 2 * nh < s := by omega
    rw [tX9_fewestBeds_L27]
    simp (disch := omega) only [tA_e, tA_l, tW0_e, tW0_l, nN_al, nN_la, nN_ad, nN_lm, nN_ml, nN_le, nN_lt, nN_eq, nN_lel, nN_lle, nN_ltl, nN_llt, nN_eql, nN_rm, nN_dv, ob_s, ob_2, ob_3, ite_true, ite_false, not_true_eq_false, not_false_eq_true, ite_self, eq_self, Nat.add_zero, rv, ch, c1]
    rcases clL (s := s) h hR (by omega) hc R 0 4000 T (by omega) hy (by omega) with ⟨T1, a1, a2, a3⟩ | ⟨y, T1, a1, a2, a3, a4, a5, a6, a7, a8⟩
    · have a1' : tX9_fewestBeds_L43 4000 (nI K) (nI R) (nI s) 0 T = some (.inl T1) := a1
      rw [a1', ob_s]
      refine ih (s + 1) f T1 (by omega) a2 (fun y h2 h3 => ?_) (by omega)
      have h5 := hn y h2 h3
      by_cases c : dsm nh y = s
      · rw [a3 y (by omega) h2 c] at h3
        cases h3
      · omega
    · have a6' : tX9_fewestBeds_L43 4000 (nI K) (nI R) (nI s) 0 T = some (.inr (nI s, T1)) := a6
      rw [a6', ob_s]
      refine .inr ⟨y, T1, ⟨a2, a4, fun z h2 h3 => ⟨?_, fun h5 => ?_⟩⟩, by rw [a3], a7, a8⟩
      · rw [a3]
        exact hn z h2 h3
      · by_cases c : z < y
        · rw [a5 z (by omega) c (by omega)] at h3
          cases h3
        · omega
theorem mlL {w p q N K R : Nat} {a2 : Int32} (h : GP v w p q nh nd st V N t t') (hR : R ≤ 81) {cf : Nat → Bool} (hc : ∀ x T', x < 1000 → ZQ t' T' → RM t t' nh K x T' (cf x)) : ∀ (k x f : Nat) (y z : Int32) (T' : tS), x + k = R → ZQ t' T' → ((y = -1 ∧ ∀ i, i < x → okr t nh cf i = false) ∨ (∃ b, y = nI b ∧ z = nI (dsm nh b) ∧ bst nh x (okr t nh cf) b)) → k < f → ∃ T1', ZQ t' T1' ∧ ((∃ z1, tX10_beds_L64 f (nI K) a2 (nI R) y z (nI x) T' = some (-1, z1, T1') ∧ ∀ i, i < R → okr t nh cf i = false) ∨ (∃ b, tX10_beds_L64 f (nI K) a2 (nI R) y z (nI x) T' = some (nI b, nI (dsm nh b), T1') ∧ bst nh R (okr t nh cf) b)) := by
  have h4 := h.h4
  intro k
  induction k with
  | zero =>
    intro x f y z T' hx hz hy hf
    obtain ⟨f, rfl⟩ : ∃ g, f = g + 1 := ⟨f - 1, by omega⟩
    obtain rfl : x = R := by omega
    rw [tX10_beds_L64]
    simp (disch := omega) only [tA_e, tA_l, tW0_e, tW0_l, nN_al, nN_la, nN_ad, nN_lm, nN_ml, nN_le, nN_lt, nN_eq, nN_lel, nN_lle, nN_ltl, nN_llt, nN_eql, nN_rm, nN_dv, ob_s, ob_2, ob_3, ite_true, ite_false, not_true_eq_false, not_false_eq_true, ite_self, eq_self, Nat.add_zero, Nat.le_refl]
    rcases hy with ⟨rfl, h1⟩ | ⟨b, rfl, rfl, h1⟩
    · exact ⟨_, hz, .inl ⟨_, rfl, h1⟩⟩
    · exact ⟨_, hz, .inr ⟨b, rfl, h1⟩⟩
  | succ k ih =>
    intro x f y z T' hx hz hy hf
    obtain ⟨f, rfl⟩ : ∃ g, f = g + 1 := ⟨f - 1, by omega⟩
    have c1 : ¬ R ≤ x := by omega
    have dl := dsm_le nh x
    have z9 : ¬ (1 : Int32) = 0 := by decide
    obtain ⟨T1, T2, T3, a1, a2, a3, a4⟩ := hc x T' (by omega) hz a2 (nI R) y z
    rw [tX10_beds_L64]
    simp (disch := omega) only [tA_e, tA_l, tW0_e, tW0_l, nN_al, nN_la, nN_ad, nN_lm, nN_ml, nN_le, nN_lt, nN_eq, nN_lel, nN_lle, nN_ltl, nN_llt, nN_eql, nN_rm, nN_dv, ob_s, ob_2, ob_3, ite_true, ite_false, not_true_eq_false, not_false_eq_true, ite_self, eq_self, Nat.add_zero, c1, a1, a2, bI_0]
    rcases hy with ⟨rfl, h1⟩ | ⟨b, rfl, rfl, h1, h2, h3⟩
    · have m0 : (-1 : Int32) < 0 := by decide
      have no : okr t nh cf x = false → ∀ i, i < x + 1 → okr t nh cf i = false := by
        intro e i hi
        by_cases c : i = x
        · rw [c]; exact e
        · exact h1 i (by omega)
      cases hm : mb t nh x nh
      · simp only [tA_e, tA_l, tW0_e, tW0_l, nN_al, nN_la, nN_ad, nN_lm, nN_ml, nN_le, nN_lt, nN_eq, nN_lel, nN_lle, nN_ltl, nN_llt, nN_eql, nN_rm, nN_dv, ob_s, ob_2, ob_3, ite_true, ite_false, not_true_eq_false, not_false_eq_true, ite_self, eq_self, Nat.add_zero]
        exact ih (x + 1) f _ _ T2 (by omega) a3 (.inl ⟨rfl, no (by unfold okr; rw [hm]; rfl)⟩) (by omega)
      · obtain ⟨b1, b2⟩ := a4 hm
        simp only [tA_e, tA_l, tW0_e, tW0_l, nN_al, nN_la, nN_ad, nN_lm, nN_ml, nN_le, nN_lt, nN_eq, nN_lel, nN_lle, nN_ltl, nN_llt, nN_eql, nN_rm, nN_dv, ob_s, ob_2, ob_3, ite_true, ite_false, not_true_eq_false, not_false_eq_true, ite_self, eq_self, Nat.add_zero, Bool.true_eq_false, m0, b1, bI_0]
        cases hcf : cf x
        · simp only [tA_e, tA_l, tW0_e, tW0_l, nN_al, nN_la, nN_ad, nN_lm, nN_ml, nN_le, nN_lt, nN_eq, nN_lel, nN_lle, nN_ltl, nN_llt, nN_eql, nN_rm, nN_dv, ob_s, ob_2, ob_3, ite_true, ite_false, not_true_eq_false, not_false_eq_true, ite_self, eq_self, Nat.add_zero]
          exact ih (x + 1) f _ _ T3 (by omega) b2 (.inl ⟨rfl, no (by unfold okr; rw [hm, hcf]; rfl)⟩) (by omega)
        · simp only [tA_e, tA_l, tW0_e, tW0_l, nN_al, nN_la, nN_ad, nN_lm, nN_ml, nN_le, nN_lt, nN_eq, nN_lel, nN_lle, nN_ltl, nN_llt, nN_eql, nN_rm, nN_dv, ob_s, ob_2, ob_3, ite_true, ite_false, not_true_eq_false, not_false_eq_true, ite_self, eq_self, Nat.add_zero, Bool.true_eq_false, z9]
          refine ih (x + 1) f _ _ T3 (by omega) b2 (.inr ⟨x, rfl, rfl, by omega, by unfold okr; rw [hm, hcf]; rfl, fun i hi h5 => ?_⟩) (by omega)
          by_cases c : i = x
          · rw [c]
            exact ⟨Nat.le_refl _, fun _ => Nat.le_refl _⟩
          · rw [h1 i (by omega)] at h5
            cases h5
    · have m0 : ¬ nI b < (0 : Int32) := nN_ge0 (by omega)
      have dl2 := dsm_le nh b
      have no : (okr t nh cf x = true → dsm nh b ≤ dsm nh x) → bst nh (x + 1) (okr t nh cf) b := by
        intro e
        refine ⟨by omega, h2, fun i hi h5 => ?_⟩
        by_cases c : i = x
        · subst c
          exact ⟨e h5, fun _ => by omega⟩
        · exact h3 i (by omega) h5
      cases hm : mb t nh x nh
      · simp only [tA_e, tA_l, tW0_e, tW0_l, nN_al, nN_la, nN_ad, nN_lm, nN_ml, nN_le, nN_lt, nN_eq, nN_lel, nN_lle, nN_ltl, nN_llt, nN_eql, nN_rm, nN_dv, ob_s, ob_2, ob_3, ite_true, ite_false, not_true_eq_false, not_false_eq_true, ite_self, eq_self, Nat.add_zero]
        exact ih (x + 1) f _ _ T2 (by omega) a3 (.inr ⟨b, rfl, rfl, no (fun e => by unfold okr at e; rw [hm] at e; cases e)⟩) (by omega)
      · obtain ⟨b1, b2⟩ := a4 hm
        by_cases c3 : dsm nh b ≤ dsm nh x
        · simp (disch := omega) only [tA_e, tA_l, tW0_e, tW0_l, nN_al, nN_la, nN_ad, nN_lm, nN_ml, nN_le, nN_lt, nN_eq, nN_lel, nN_lle, nN_ltl, nN_llt, nN_eql, nN_rm, nN_dv, ob_s, ob_2, ob_3, ite_true, ite_false, not_true_eq_false, not_false_eq_true, ite_self, eq_self, Nat.add_zero, Bool.true_eq_false, m0, eq_true c3]
          exact ih (x + 1) f _ _ T2 (by omega) a3 (.inr ⟨b, rfl, rfl, no (fun _ => c3)⟩) (by omega)
        · simp (disch := omega) only [tA_e, tA_l, tW0_e, tW0_l, nN_al, nN_la, nN_ad, nN_lm, nN_ml, nN_le, nN_lt, nN_eq, nN_lel, nN_lle, nN_ltl, nN_llt, nN_eql, nN_rm, nN_dv, ob_s, ob_2, ob_3, ite_true, ite_false, not_true_eq_false, not_false_eq_true, ite_self, eq_self, Nat.add_zero, Bool.true_eq_false, m0, c3, b1, bI_0]
          cases hcf : cf x
          · simp only [tA_e, tA_l, tW0_e, tW0_l, nN_al, nN_la, nN_ad, nN_lm, nN_ml, nN_le, nN_lt, nN_eq, nN_lel, nN_lle, nN_ltl, nN_llt, nN_eql, nN_rm, nN_dv, ob_s, ob_2, ob_3, ite_true, ite_false, not_true_eq_false, not_false_eq_true, ite_self, eq_self, Nat.add_zero]
            exact ih (x + 1) f _ _ T3 (by omega) b2 (.inr ⟨b, rfl, rfl, no (fun e => by unfold okr at e; rw [hm, hcf] at e; cases e)⟩) (by omega)
          · simp only [tA_e, tA_l, tW0_e, tW0_l, nN_al, nN_la, nN_ad, nN_lm, nN_ml, nN_le, nN_lt, nN_eq, nN_lel, nN_lle, nN_ltl, nN_llt, nN_eql, nN_rm, nN_dv, ob_s, ob_2, ob_3, ite_true, ite_false, not_true_eq_false, not_false_eq_true, ite_self, eq_self, Nat.add_zero, Bool.true_eq_false, z9]
            refine ih (x + 1) f _ _ T3 (by omega) b2 (.inr ⟨x, rfl, rfl, by omega, by unfold okr; rw [hm, hcf]; rfl, fun i hi h5 => ?_⟩) (by omega)
            by_cases c : i = x
            · rw [c]
              exact ⟨Nat.le_refl _, fun _ => Nat.le_refl _⟩
            · obtain ⟨k1, k2⟩ := h3 i (by omega) h5
              exact ⟨by omega, fun _ => by omega⟩
theorem th3 {x a2 : Int32} {T T' : tS} (hc : CV v nh nd st V T) (hv : T.2.2.2.2 0 9 = v) (hm : MV nh nd st V T') (h4 : nh ≤ 4) : ∀ (k i f f' : Nat), i + k = nh → k < f → k < f' → tX9_fewestBeds_L4 f x (nI (3 ^ i)) (nI i) T = some (nI (3 ^ nh)) ∧ tX10_beds_L36 f' x a2 (nI (3 ^ i)) (nI i) T' = some (nI (3 ^ nh)) := by
  intro k
  induction k with
  | zero =>
    intro i f f' hi hf hf'
    obtain ⟨f, rfl⟩ : ∃ g, f = g + 1 := ⟨f - 1, by omega⟩
    obtain ⟨f', rfl⟩ : ∃ g, f' = g + 1 := ⟨f' - 1, by omega⟩
    obtain rfl : i = nh := by omega
    rw [tX9_fewestBeds_L4, tX10_beds_L36]
    simp (disch := omega) only [tA_e, tA_l, tW0_e, tW0_l, nN_al, nN_la, nN_ad, nN_lm, nN_ml, nN_le, nN_lt, nN_eq, nN_lel, nN_lle, nN_ltl, nN_llt, nN_eql, nN_rm, nN_dv, ob_s, ob_2, ob_3, ite_true, ite_false, not_true_eq_false, not_false_eq_true, ite_self, eq_self, Nat.add_zero, hv, hc.1, hm.houses, Nat.le_refl, and_self]
  | succ k ih =>
    intro i f f' hi hf hf'
    obtain ⟨f, rfl⟩ : ∃ g, f = g + 1 := ⟨f - 1, by omega⟩
    obtain ⟨f', rfl⟩ : ∃ g, f' = g + 1 := ⟨f' - 1, by omega⟩
    have c1 : ¬ nh ≤ i := by omega
    rw [tX9_fewestBeds_L4, tX10_beds_L36]
    simp (disch := omega) only [tA_e, tA_l, tW0_e, tW0_l, nN_al, nN_la, nN_ad, nN_lm, nN_ml, nN_le, nN_lt, nN_eq, nN_lel, nN_lle, nN_ltl, nN_llt, nN_eql, nN_rm, nN_dv, ob_s, ob_2, ob_3, ite_true, ite_false, not_true_eq_false, not_false_eq_true, ite_self, eq_self, Nat.add_zero, hv, hc.1, hm.houses, c1]
    rw [← Nat.pow_succ]
    exact ih (i + 1) f f' (by omega) (by omega) (by omega)
theorem bst_un {R b c : Nat} {ok : Nat → Bool} (h : bst nh R ok b) (g : bst nh R ok c) : b = c := by
  obtain ⟨h1, h2, h3⟩ := h
  obtain ⟨g1, g2, g3⟩ := g
  obtain ⟨a1, a2⟩ := h3 c g1 g2
  obtain ⟨b1, b2⟩ := g3 b h1 h2
  have e : dsm nh b = dsm nh c := by omega
  have := a2 e.symm
  have := b2 e
  omega
/-- the search in both, from now -/
theorem bed_s {w p q N K : Nat} {a2 : Int32} (h : GP v w p q nh nd st V N t t') (hK : K < 100) : ∃ T T', YQ t T ∧ ZQ t' T' ∧ ((∃ z1, tX9_fewestBeds (nI K) t = some (-1, T) ∧ (Option.bind (tX10_beds_L36 4000 (nI K) a2 1 0 (uI t' 218 0 0)) fun lw => tX10_beds_L64 4000 (nI K) a2 lw (-1) 0 0 (uI t' 218 0 0)) = some (-1, z1, T')) ∨ (∃ b, b < 81 ∧ tX9_fewestBeds (nI K) t = some (nI (dsm nh b), T) ∧ (Option.bind (tX10_beds_L36 4000 (nI K) a2 1 0 (uI t' 218 0 0)) fun lw => tX10_beds_L64 4000 (nI K) a2 lw (-1) 0 0 (uI t' 218 0 0)) = some (nI b, nI (dsm nh b), T') ∧ RW9 nh b T)) := by
  have h4 := h.h4
  have hR : 3 ^ nh ≤ 81 := by
    have : 3 ^ nh ≤ 3 ^ 4 := Nat.pow_le_pow_right (by decide) h4
    omega
  obtain ⟨cf, hc, hm⟩ := bed_ok h hK
  have mv : MV nh nd st V (uI t' 218 0 0) := h.2.2.2.1.2.2.2.1
  obtain ⟨q1, q2⟩ := th3 (x := nI K) (a2 := a2) h.2.2.2.1.2.2.1 h.2.2.1.1 mv h4 nh 0 4000 4000 (by omega) (by omega) (by omega)
  have q1' : tX9_fewestBeds_L4 4000 (nI K) 1 0 t = some (nI (3 ^ nh)) := q1
  have q2' : tX10_beds_L36 4000 (nI K) a2 1 0 (uI t' 218 0 0) = some (nI (3 ^ nh)) := q2
  obtain ⟨T', hz, hM⟩ := mlL (a2 := a2) h hR hm (3 ^ nh) 0 4000 (-1) 0 (uI t' 218 0 0) (by omega) (ZQ.th (.inl rfl)) (.inl ⟨rfl, fun i hi => by omega⟩) (by omega)
  rw [show nI 0 = (0 : Int32) from rfl] at hM
  unfold tX9_fewestBeds
  rw [q1', q2', ob_s, ob_s]
  rcases clS h hR hc (2 * nh + 1) 0 4000 t (by omega) YQ.rf (fun _ _ _ => Nat.zero_le _) (by omega) with ⟨T, a1, a2, a3⟩ | ⟨b, T, a1, a2, a3, a4⟩
  · have a1' : tX9_fewestBeds_L27 4000 (nI K) (nI (3 ^ nh)) 0 t = some (.inl T) := a1
    rcases hM with ⟨z1, b1, b2⟩ | ⟨c, b1, b2⟩
    · rw [a1', ob_s, b1]
      exact ⟨T, T', a2, hz, .inl ⟨z1, rfl, rfl⟩⟩
    · have := a3 c b2.1
      rw [b2.2.1] at this
      cases this
  · have a2' : tX9_fewestBeds_L27 4000 (nI K) (nI (3 ^ nh)) 0 t = some (.inr (nI (dsm nh b), T)) := a2
    rcases hM with ⟨z1, b1, b2⟩ | ⟨c, b1, b2⟩
    · have := b2 b a1.1
      rw [a1.2.1] at this
      cases this
    · obtain rfl := bst_un a1 b2
      rw [a2', ob_s, b1]
      exact ⟨T, T', a3, hz, .inr ⟨b, by have := a1.1; omega, rfl, rfl, a4⟩⟩
theorem q_beds {w p q N : Nat} (h : GP v w p q nh nd st V N t t') (x y : Int32) : QA (tX9_beds x y t) (tX10_beds x y t') t t' := by
  have h4 := h.h4
  have hb := h.2.2.2.1.isHouse h.2.2.1.1 (x := y)
  have hb' : tX10_isHouse y (uI t' 218 0 0) = some (bI (inr y nh)) := hb.2
  unfold tX9_beds tX10_beds
  simp only [ob_s, hb.1, hb', wi_e.1, wi_e.2, bI_0]
  cases hx : decide ((1 : Int32) ≤ x ∧ x ≤ 36)
  · simp only [tA_e, tA_l, tW0_e, tW0_l, nN_al, nN_la, nN_ad, nN_lm, nN_ml, nN_le, nN_lt, nN_eq, nN_lel, nN_lle, nN_ltl, nN_llt, nN_eql, nN_rm, nN_dv, ob_s, ob_2, ob_3, ite_true, ite_false, not_true_eq_false, not_false_eq_true, ite_self, eq_self, Nat.add_zero, decide_true, decide_false, decide_not, Bool.not_true, Bool.not_false, Bool.true_and, Bool.false_and, Bool.and_true, Bool.and_false, Bool.or_true, Bool.true_or, Bool.or_false, Bool.false_or, if_true, if_false, Bool.false_eq_true, z01_0, z01_1]
    exact QA.no
  · obtain ⟨K, _, hK, rfl⟩ := wi_n (lo := 1) (hi := 36) (by decide) (by decide) hx
    obtain ⟨T, T', hy, hz, hS⟩ := bed_s (K := K) (a2 := y) h (by omega)
    obtain ⟨lw, l1⟩ : ∃ lw, tX10_beds_L36 4000 (nI K) y 1 0 (uI t' 218 0 0) = some lw := by
      cases e : tX10_beds_L36 4000 (nI K) y 1 0 (uI t' 218 0 0) with
      | none =>
        rw [e] at hS
        rcases hS with ⟨_, _, z⟩ | ⟨_, _, _, z, _⟩
        · cases z
        · cases z
      | some lw => exact ⟨lw, rfl⟩
    rw [l1] at hS
    simp only [ob_s] at hS
    have n1 : ¬ (0 : Int32) ≤ -1 := by decide
    by_cases c : y = -1
    · rcases hS with ⟨z1, a1, a2⟩ | ⟨b, a1, a2, a3, a4⟩
      · simp only [eq_true c, tA_e, tA_l, tW0_e, tW0_l, nN_al, nN_la, nN_ad, nN_lm, nN_ml, nN_le, nN_lt, nN_eq, nN_lel, nN_lle, nN_ltl, nN_llt, nN_eql, nN_rm, nN_dv, ob_s, ob_2, ob_3, ite_true, ite_false, not_true_eq_false, not_false_eq_true, ite_self, eq_self, Nat.add_zero, Bool.true_eq_false, l1, a1, a2, n1]
        exact ⟨_, _, _, rfl, rfl, hy, hz⟩
      · have n2 : ¬ nI (dsm nh b) = (-1 : Int32) := nN_ne1 (by have := dsm_le nh b; omega)
        have n3 : (0 : Int32) ≤ nI b := (nN_le (a := 0) (by decide) (by omega)).2 (Nat.zero_le _)
        simp only [eq_true c, ob_s, ob_2, ob_3, ite_true, ite_false, Bool.true_eq_false, not_true_eq_false, not_false_eq_true, l1, a2, a3, n2, n3]
        exact ⟨_, _, _, rfl, rfl, hy, hz⟩
    · cases hi : inr y nh
      · simp only [c, tA_e, tA_l, tW0_e, tW0_l, nN_al, nN_la, nN_ad, nN_lm, nN_ml, nN_le, nN_lt, nN_eq, nN_lel, nN_lle, nN_ltl, nN_llt, nN_eql, nN_rm, nN_dv, ob_s, ob_2, ob_3, ite_true, ite_false, not_true_eq_false, not_false_eq_true, ite_self, eq_self, Nat.add_zero, decide_true, decide_false, decide_not, Bool.not_true, Bool.not_false, Bool.true_and, Bool.false_and, Bool.and_true, Bool.and_false, Bool.or_true, Bool.true_or, Bool.or_false, Bool.false_or, if_true, if_false, Bool.false_eq_true, z01_0, z01_1, Bool.true_eq_false]
        exact QA.no
      · obtain ⟨j, hj, rfl⟩ := inr_t hi
        rcases hS with ⟨z1, a1, a2⟩ | ⟨b, a1, a2, a3, a4⟩
        · simp only [c, tA_e, tA_l, tW0_e, tW0_l, nN_al, nN_la, nN_ad, nN_lm, nN_ml, nN_le, nN_lt, nN_eq, nN_lel, nN_lle, nN_ltl, nN_llt, nN_eql, nN_rm, nN_dv, ob_s, ob_2, ob_3, ite_true, ite_false, not_true_eq_false, not_false_eq_true, ite_self, eq_self, Nat.add_zero, Bool.true_eq_false, l1, a1, a2, n1]
          exact ⟨_, _, _, rfl, rfl, hy, hz⟩
        · have n2 : ¬ nI (dsm nh b) = (-1 : Int32) := nN_ne1 (by have := dsm_le nh b; omega)
          have n3 : (0 : Int32) ≤ nI b := (nN_le (a := 0) (by decide) (by omega)).2 (Nat.zero_le _)
          have r1 : tA T 179 4 (nI j) = some (nI (dgs nh b j)) := by
            rw [tA_e (by omega) (by omega), a4 j hj]
          have r2 := ((h.q hy hz).2.2.2.1.2.2.2.1).builtIn h4 (x := b) (by omega) hj
          simp only [c, ob_s, ob_2, ob_3, ite_true, ite_false, Bool.true_eq_false, not_true_eq_false, not_false_eq_true, l1, a2, a3, n2, n3, r1, r2]
          exact ⟨_, _, _, rfl, rfl, hy, hz⟩
end
