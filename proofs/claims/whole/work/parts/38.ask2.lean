/-! ===== PURE: crowd, refused, meets ===== -/
section
variable {v nh nd st a b n m : Nat} {V : Nat → Nat → Nat} {S : Nat → Nat → Int32} {t0 t0' t t' : tS}
theorem PQ.crL : ∀ (k i f f' n m : Nat) (best most : Int32) (S : Nat → Nat → Int32) (t t' : tS), PQ v nh nd st V n m S t0 t0' t t' → n + k < 900000 → i + k = 61 → k < f → k < f' → ∃ r n1 m1 S1 t1 t1', tX9_crowd_L17 f best most (nI i) t = some (r, t1) ∧ tX10_crowd_L15 f' best most (nI i) t' = some (r, t1') ∧ PQ v nh nd st V n1 m1 S1 t0 t0' t1 t1' := by
  intro k
  induction k with
  | zero =>
    intro i f f' n m best most S t t' h hn hi hf hf'
    obtain ⟨f, rfl⟩ : ∃ g, f = g + 1 := ⟨f - 1, by omega⟩
    obtain ⟨f', rfl⟩ : ∃ g, f' = g + 1 := ⟨f' - 1, by omega⟩
    have c1 : 60 < i := by omega
    rw [tX9_crowd_L17, tX10_crowd_L15]
    simp (disch := omega) only [tA_e, tA_l, tW0_e, tW0_l, nN_al, nN_la, nN_ad, nN_lm, nN_ml, nN_le, nN_lt, nN_eq, nN_lel, nN_lle, nN_ltl, nN_llt, nN_eql, nN_rm, nN_dv, ob_s, ob_2, ob_3, ite_true, ite_false, not_true_eq_false, not_false_eq_true, ite_self, eq_self, Nat.add_zero, c1]
    exact ⟨_, _, _, _, _, _, rfl, rfl, h⟩
  | succ k ih =>
    intro i f f' n m best most S t t' h hn hi hf hf'
    obtain ⟨f, rfl⟩ : ∃ g, f = g + 1 := ⟨f - 1, by omega⟩
    obtain ⟨f', rfl⟩ : ∃ g, f' = g + 1 := ⟨f' - 1, by omega⟩
    have c1 : ¬ 60 < i := by omega
    have e4 := h.1.somewhere
    have e5 := h.1.somewhere' h.2.1
    have e6 := h.1.sw64
    obtain ⟨S1, c2, o1, t1, t1', e1, e2, e3, _⟩ := h.pass (by omega)
    rw [h.rv] at e1
    rw [tX9_crowd_L17, tX10_crowd_L15]
    rw [← l987] at e5
    simp (disch := omega) only [tA_e, tA_l, tW0_e, tW0_l, nN_al, nN_la, nN_ad, nN_lm, nN_ml, nN_le, nN_lt, nN_eq, nN_lel, nN_lle, nN_ltl, nN_llt, nN_eql, nN_rm, nN_dv, ob_s, ob_2, ob_3, ite_true, ite_false, not_true_eq_false, not_false_eq_true, ite_self, eq_self, Nat.add_zero, c1, h.rv, e1, e2, e4, e5, bc_e e6, bits_e e6]
    by_cases c : nI (pc (sw (S 4) nd)) ≤ most
    · simp only [tA_e, tA_l, tW0_e, tW0_l, nN_al, nN_la, nN_ad, nN_lm, nN_ml, nN_le, nN_lt, nN_eq, nN_lel, nN_lle, nN_ltl, nN_llt, nN_eql, nN_rm, nN_dv, ob_s, ob_2, ob_3, ite_true, ite_false, not_true_eq_false, not_false_eq_true, ite_self, eq_self, Nat.add_zero, eq_true c]
      exact ih (i + 1) f f' _ _ _ _ _ _ _ e3 (by omega) (by omega) (by omega) (by omega)
    · simp only [tA_e, tA_l, tW0_e, tW0_l, nN_al, nN_la, nN_ad, nN_lm, nN_ml, nN_le, nN_lt, nN_eq, nN_lel, nN_lle, nN_ltl, nN_llt, nN_eql, nN_rm, nN_dv, ob_s, ob_2, ob_3, ite_true, ite_false, not_true_eq_false, not_false_eq_true, ite_self, eq_self, Nat.add_zero, c]
      exact ih (i + 1) f f' _ _ _ _ _ _ _ e3 (by omega) (by omega) (by omega) (by omega)
theorem q_crowd {N : Nat} (h : QR v nh nd st V N t t') : QA (tX9_crowd t) (tX10_crowd t') t t' := by
  obtain ⟨n, m, S, t1, t1', e1, e2, e3, e4, e5, e6, e7, _⟩ := h.tries
  obtain ⟨r, n2, m2, S2, t2, t2', f1, f2, f3⟩ := PQ.crL 61 0 4000 4000 n m 0 (-1) S t1 t1' e3 (by omega) (by omega) (by omega) (by omega)
  rw [show nI 0 = (0 : Int32) from rfl] at f1 f2
  unfold tX9_crowd tX10_crowd
  simp only [ob_s, e1, e2, f1, f2, ob_2]
  exact f3.qa h.1
/-- the lowest bit -/
def ntz (o : Nat) : Nat := if o.testBit 0 then 0 else if o.testBit 1 then 1 else if o.testBit 2 then 2 else if o.testBit 3 then 3 else if o.testBit 4 then 4 else 5
theorem ntz_e {o : Nat} (h : o < 64) (h0 : o ≠ 0) : o.testBit (ntz o) = true ∧ (∀ j, j < ntz o → o.testBit j = false) ∧ ntz o < 6 ∧ ∀ t : tS, tJ6_numberOfTrailingZeros_0f7a4 (nI o) t = some (nI (ntz o)) := by
  have d1 : ∀ o < 64, o ≠ 0 → o.testBit (ntz o) = true ∧ (∀ j < ntz o, o.testBit j = false) ∧ ntz o < 6 := by decide
  have d2 : ∀ o < 64, o ≠ 0 → tJ6_numberOfTrailingZeros_0f7a4 (nI o) tz = some (nI (ntz o)) := by decide
  obtain ⟨a1, a2, a3⟩ := d1 o h h0
  exact ⟨a1, a2, a3, fun t => d2 o h h0⟩
theorem ntz_L {o r : Nat} {x y : Int32} {t : tS} (ho : o < 64) (ht : t.1 218 29 = nI o) (hr : r < 6) (h1 : o.testBit r = true) (h2 : ∀ j, j < r → o.testBit j = false) : ∀ (k i f : Nat), i + k = r → k < f → tX10_refused_L42 f x y (nI i) t = some (nI r) := by
  intro k
  induction k with
  | zero =>
    intro i f hi hf
    obtain ⟨f, rfl⟩ : ∃ g, f = g + 1 := ⟨f - 1, by omega⟩
    obtain rfl : i = r := by omega
    rw [tX10_refused_L42]
    simp (disch := omega) only [tA_e, tA_l, tW0_e, tW0_l, nN_al, nN_la, nN_ad, nN_lm, nN_ml, nN_le, nN_lt, nN_eq, nN_lel, nN_lle, nN_ltl, nN_llt, nN_eql, nN_rm, nN_dv, ob_s, ob_2, ob_3, ite_true, ite_false, not_true_eq_false, not_false_eq_true, ite_self, eq_self, Nat.add_zero, decide_true, decide_false, decide_not, Bool.not_true, Bool.not_false, Bool.true_and, Bool.false_and, Bool.and_true, Bool.and_false, Bool.or_true, Bool.true_or, Bool.or_false, Bool.false_or, if_true, if_false, Bool.false_eq_true, z01_0, z01_1, ht, nN_bit, tb_0, h1, Bool.true_eq_false]
  | succ k ih =>
    intro i f hi hf
    obtain ⟨f, rfl⟩ : ∃ g, f = g + 1 := ⟨f - 1, by omega⟩
    rw [tX10_refused_L42]
    simp (disch := omega) only [tA_e, tA_l, tW0_e, tW0_l, nN_al, nN_la, nN_ad, nN_lm, nN_ml, nN_le, nN_lt, nN_eq, nN_lel, nN_lle, nN_ltl, nN_llt, nN_eql, nN_rm, nN_dv, ob_s, ob_2, ob_3, ite_true, ite_false, not_true_eq_false, not_false_eq_true, ite_self, eq_self, Nat.add_zero, decide_true, decide_false, decide_not, Bool.not_true, Bool.not_false, Bool.true_and, Bool.false_and, Bool.and_true, Bool.and_false, Bool.or_true, Bool.true_or, Bool.or_false, Bool.false_or, if_true, if_false, Bool.false_eq_true, z01_0, z01_1, ht, nN_bit, tb_0, h2]
    exact ih (i + 1) f (by omega) (by omega)
theorem PQ.reL {x : Int32} (hx : decide ((0 : Int32) ≤ x ∧ x ≤ 1) = true) : ∀ (k i f f' n m : Nat) (S : Nat → Nat → Int32) (t t' : tS), PQ v nh nd st V n m S t0 t0' t t' → n + k < 900000 → i + k = 61 → k < f → k < f' → LQ v t0 t0' (tX9_refused_L24 f x (nI i) t) (tX10_refused_L11 f' x (nI i) t') := by
  intro k
  induction k with
  | zero =>
    intro i f f' n m S t t' h hn hi hf hf'
    obtain ⟨f, rfl⟩ : ∃ g, f = g + 1 := ⟨f - 1, by omega⟩
    obtain ⟨f', rfl⟩ : ∃ g, f' = g + 1 := ⟨f' - 1, by omega⟩
    have c1 : 60 < i := by omega
    rw [tX9_refused_L24, tX10_refused_L11]
    simp (disch := omega) only [tA_e, tA_l, tW0_e, tW0_l, nN_al, nN_la, nN_ad, nN_lm, nN_ml, nN_le, nN_lt, nN_eq, nN_lel, nN_lle, nN_ltl, nN_llt, nN_eql, nN_rm, nN_dv, ob_s, ob_2, ob_3, ite_true, ite_false, not_true_eq_false, not_false_eq_true, ite_self, eq_self, Nat.add_zero, c1]
    exact h.lin
  | succ k ih =>
    intro i f f' n m S t t' h hn hi hf hf'
    obtain ⟨f, rfl⟩ : ∃ g, f = g + 1 := ⟨f - 1, by omega⟩
    obtain ⟨f', rfl⟩ : ∃ g, f' = g + 1 := ⟨f' - 1, by omega⟩
    have c1 : ¬ 60 < i := by omega
    obtain ⟨S1, c2, o1, t1, t1', e1, e2, e3, e4, ⟨k1, k2, k3, k4⟩, e6, e7, e8, e9⟩ := h.pass (by omega)
    rw [tX9_refused_L24, tX10_refused_L11]
    have ih := ih (i + 1) f f' _ _ _ _ _ e3 (by omega) (by omega) (by omega) (by omega)
    simp (disch := omega) only [tA_e, tA_l, tW0_e, tW0_l, nN_al, nN_la, nN_ad, nN_lm, nN_ml, nN_le, nN_lt, nN_eq, nN_lel, nN_lle, nN_ltl, nN_llt, nN_eql, nN_rm, nN_dv, ob_s, ob_2, ob_3, ite_true, ite_false, not_true_eq_false, not_false_eq_true, ite_self, eq_self, Nat.add_zero, decide_true, decide_false, decide_not, Bool.not_true, Bool.not_false, Bool.true_and, Bool.false_and, Bool.and_true, Bool.and_false, Bool.or_true, Bool.true_or, Bool.or_false, Bool.false_or, if_true, if_false, Bool.false_eq_true, z01_0, z01_1, c1, wi_e.2, hx, bI_0, Bool.true_eq_false, e1, e2, k2, k4]
    by_cases c : o1 = 0
    · simp only [tA_e, tA_l, tW0_e, tW0_l, nN_al, nN_la, nN_ad, nN_lm, nN_ml, nN_le, nN_lt, nN_eq, nN_lel, nN_lle, nN_ltl, nN_llt, nN_eql, nN_rm, nN_dv, ob_s, ob_2, ob_3, ite_true, ite_false, not_true_eq_false, not_false_eq_true, ite_self, eq_self, Nat.add_zero, eq_true c]
      exact ih
    · obtain ⟨a1, a2, a3, a4⟩ := ntz_e e7 c
      have a5 := ntz_L (x := x) (y := nI i) e7 k4 a3 a1 a2 (ntz o1) 0 4000 (by omega) (by omega)
      rw [show nI 0 = (0 : Int32) from rfl] at a5
      simp only [tA_e, tA_l, tW0_e, tW0_l, nN_al, nN_la, nN_ad, nN_lm, nN_ml, nN_le, nN_lt, nN_eq, nN_lel, nN_lle, nN_ltl, nN_llt, nN_eql, nN_rm, nN_dv, ob_s, ob_2, ob_3, ite_true, ite_false, not_true_eq_false, not_false_eq_true, ite_self, eq_self, Nat.add_zero, c, a4, a5]
      by_cases c3 : x = 0
      · simp only [tA_e, tA_l, tW0_e, tW0_l, nN_al, nN_la, nN_ad, nN_lm, nN_ml, nN_le, nN_lt, nN_eq, nN_lel, nN_lle, nN_ltl, nN_llt, nN_eql, nN_rm, nN_dv, ob_s, ob_2, ob_3, ite_true, ite_false, not_true_eq_false, not_false_eq_true, ite_self, eq_self, Nat.add_zero, eq_true c3]
        exact e3.rin
      · simp only [tA_e, tA_l, tW0_e, tW0_l, nN_al, nN_la, nN_ad, nN_lm, nN_ml, nN_le, nN_lt, nN_eq, nN_lel, nN_lle, nN_ltl, nN_llt, nN_eql, nN_rm, nN_dv, ob_s, ob_2, ob_3, ite_true, ite_false, not_true_eq_false, not_false_eq_true, ite_self, eq_self, Nat.add_zero, c3]
        exact e3.rin
theorem q_refused {N : Nat} (h : QR v nh nd st V N t t') (x : Int32) : QA (tX9_refused x t) (tX10_refused x t') t t' := by
  obtain ⟨n, m, S, t1, t1', e1, e2, e3, e4, e5, e6, e7, _⟩ := h.tries
  unfold tX9_refused tX10_refused
  simp only [ob_s, bI_0, e1, e2, wi_e.1]
  cases hi : decide ((0 : Int32) ≤ x ∧ x ≤ 1)
  · have : tX10_refused_L11 4000 x 1 t1' = some (.inl t1') := by
      rw [show 4000 = 3999 + 1 from rfl, tX10_refused_L11]
      have c1 : ¬ (60 : Int32) < 1 := by decide
      simp only [tA_e, tA_l, tW0_e, tW0_l, nN_al, nN_la, nN_ad, nN_lm, nN_ml, nN_le, nN_lt, nN_eq, nN_lel, nN_lle, nN_ltl, nN_llt, nN_eql, nN_rm, nN_dv, ob_s, ob_2, ob_3, ite_true, ite_false, not_true_eq_false, not_false_eq_true, ite_self, eq_self, Nat.add_zero, c1, wi_e.2, hi, bI_0]
    rw [this]
    simp only [tA_e, tA_l, tW0_e, tW0_l, nN_al, nN_la, nN_ad, nN_lm, nN_ml, nN_le, nN_lt, nN_eq, nN_lel, nN_lle, nN_ltl, nN_llt, nN_eql, nN_rm, nN_dv, ob_s, ob_2, ob_3, ite_true, ite_false, not_true_eq_false, not_false_eq_true, ite_self, eq_self, Nat.add_zero, decide_true, decide_false, decide_not, Bool.not_true, Bool.not_false, Bool.true_and, Bool.false_and, Bool.and_true, Bool.and_false, Bool.or_true, Bool.true_or, Bool.or_false, Bool.false_or, if_true, if_false, Bool.false_eq_true, z01_0, z01_1]
    exact ⟨_, _, _, rfl, rfl, YQ.rf, (ZQ.th (.inl rfl)).tr (e3.fr.2.zq (by decide))⟩
  · simp only [tA_e, tA_l, tW0_e, tW0_l, nN_al, nN_la, nN_ad, nN_lm, nN_ml, nN_le, nN_lt, nN_eq, nN_lel, nN_lle, nN_ltl, nN_llt, nN_eql, nN_rm, nN_dv, ob_s, ob_2, ob_3, ite_true, ite_false, not_true_eq_false, not_false_eq_true, ite_self, eq_self, Nat.add_zero, decide_true, decide_false, decide_not, Bool.not_true, Bool.not_false, Bool.true_and, Bool.false_and, Bool.and_true, Bool.and_false, Bool.or_true, Bool.true_or, Bool.or_false, Bool.false_or, if_true, if_false, Bool.false_eq_true, z01_0, z01_1, Bool.true_eq_false]
    exact (PQ.reL hi 60 1 4000 4000 n m S t1 t1' e3 (by omega) (by omega) (by omega) (by omega)).qa h.1 _
theorem PQ.meL {d e : Nat} (hd : d < nd) (he : e < nd) (hde : d ≠ e) : ∀ (k i f f' n m : Nat) (S : Nat → Nat → Int32) (t t' : tS), PQ v nh nd st V n m S t0 t0' t t' → n + k < 900000 → i + k = 61 → k < f → k < f' → LQ v t0 t0' (tX9_meets_L36 f (nI d) (nI e) (nI i) t) (tX10_meets_L11 f' (nI d) (nI e) (nI i) t') := by
  intro k
  induction k with
  | zero =>
    intro i f f' n m S t t' h hn hi hf hf'
    obtain ⟨f, rfl⟩ : ∃ g, f = g + 1 := ⟨f - 1, by omega⟩
    obtain ⟨f', rfl⟩ : ∃ g, f' = g + 1 := ⟨f' - 1, by omega⟩
    have c1 : 60 < i := by omega
    rw [tX9_meets_L36, tX10_meets_L11]
    simp (disch := omega) only [tA_e, tA_l, tW0_e, tW0_l, nN_al, nN_la, nN_ad, nN_lm, nN_ml, nN_le, nN_lt, nN_eq, nN_lel, nN_lle, nN_ltl, nN_llt, nN_eql, nN_rm, nN_dv, ob_s, ob_2, ob_3, ite_true, ite_false, not_true_eq_false, not_false_eq_true, ite_self, eq_self, Nat.add_zero, c1]
    exact h.lin
  | succ k ih =>
    intro i f f' n m S t t' h hn hi hf hf'
    have h6 := h.1.h6
    have h4 := h.1.h4
    obtain ⟨f, rfl⟩ : ∃ g, f = g + 1 := ⟨f - 1, by omega⟩
    obtain ⟨f', rfl⟩ : ∃ g, f' = g + 1 := ⟨f' - 1, by omega⟩
    have c1 : ¬ 60 < i := by omega
    have hi2 : inr (nI d) nd = true := by rw [inr_n (by omega)]; exact decide_eq_true hd
    have hi3 : inr (nI e) nd = true := by rw [inr_n (by omega)]; exact decide_eq_true he
    have gm := NN.m1 (by omega) (h.2.1 d hd).2.2.1
    obtain ⟨S1, c2, o1, t1, t1', e1, e2, e3, _⟩ := h.pass (by omega)
    rw [tX9_meets_L36, tX10_meets_L11]
    have ih := ih (i + 1) f f' _ _ _ _ _ e3 (by omega) (by omega) (by omega) (by omega)
    simp (disch := omega) only [tA_e, tA_l, tW0_e, tW0_l, nN_al, nN_la, nN_ad, nN_lm, nN_ml, nN_le, nN_lt, nN_eq, nN_lel, nN_lle, nN_ltl, nN_llt, nN_eql, nN_rm, nN_dv, ob_s, ob_2, ob_3, ite_true, ite_false, not_true_eq_false, not_false_eq_true, ite_self, eq_self, Nat.add_zero, decide_true, decide_false, decide_not, Bool.not_true, Bool.not_false, Bool.true_and, Bool.false_and, Bool.and_true, Bool.and_false, Bool.or_true, Bool.true_or, Bool.or_false, Bool.false_or, if_true, if_false, Bool.false_eq_true, z01_0, z01_1, c1, h.isDay', hi2, hi3, hde, bI_0, Bool.true_eq_false, e1, e2, h.c4 hd, h.m4 hd, h.c4 he, h.m4 he, gm.1]
    by_cases c : S 4 d = -1
    · simp only [tA_e, tA_l, tW0_e, tW0_l, nN_al, nN_la, nN_ad, nN_lm, nN_ml, nN_le, nN_lt, nN_eq, nN_lel, nN_lle, nN_ltl, nN_llt, nN_eql, nN_rm, nN_dv, ob_s, ob_2, ob_3, ite_true, ite_false, not_true_eq_false, not_false_eq_true, ite_self, eq_self, Nat.add_zero, eq_true c]
      exact ih
    · by_cases c3 : S 4 d = S 4 e
      · rw [c3] at c
        simp only [tA_e, tA_l, tW0_e, tW0_l, nN_al, nN_la, nN_ad, nN_lm, nN_ml, nN_le, nN_lt, nN_eq, nN_lel, nN_lle, nN_ltl, nN_llt, nN_eql, nN_rm, nN_dv, ob_s, ob_2, ob_3, ite_true, ite_false, not_true_eq_false, not_false_eq_true, ite_self, eq_self, Nat.add_zero, c3, c]
        exact h.rin
      · simp only [tA_e, tA_l, tW0_e, tW0_l, nN_al, nN_la, nN_ad, nN_lm, nN_ml, nN_le, nN_lt, nN_eq, nN_lel, nN_lle, nN_ltl, nN_llt, nN_eql, nN_rm, nN_dv, ob_s, ob_2, ob_3, ite_true, ite_false, not_true_eq_false, not_false_eq_true, ite_self, eq_self, Nat.add_zero, c3, c]
        exact ih
theorem q_meets {N : Nat} (h : QR v nh nd st V N t t') (x y : Int32) : QA (tX9_meets x y t) (tX10_meets x y t') t t' := by
  have hb := h.2.2.1.isDay h.2.1 (x := x)
  have hb2 := h.2.2.1.isDay h.2.1 (x := y)
  have h6 := h.2.2.1.1.2.1
  obtain ⟨n, m, S, t1, t1', e1, e2, e3, e4, e5, e6, e7, _⟩ := h.tries
  have c1 : ¬ (60 : Int32) < 0 := by decide
  have fin : QA (some (-1, t)) (some (-1, t1')) t t' := ⟨_, _, _, rfl, rfl, YQ.rf, (ZQ.th (.inl rfl)).tr (e3.fr.2.zq (by decide))⟩
  unfold tX9_meets tX10_meets
  simp only [hb.1, hb2.1, ob_s, bI_0, e1, e2]
  cases hi : inr x nd
  · have : tX10_meets_L11 4000 x y 0 t1' = some (.inl t1') := by
      rw [show 4000 = 3999 + 1 from rfl, tX10_meets_L11]
      simp only [tA_e, tA_l, tW0_e, tW0_l, nN_al, nN_la, nN_ad, nN_lm, nN_ml, nN_le, nN_lt, nN_eq, nN_lel, nN_lle, nN_ltl, nN_llt, nN_eql, nN_rm, nN_dv, ob_s, ob_2, ob_3, ite_true, ite_false, not_true_eq_false, not_false_eq_true, ite_self, eq_self, Nat.add_zero, c1, e3.isDay', hi, bI_0]
    rw [this]
    simp only [tA_e, tA_l, tW0_e, tW0_l, nN_al, nN_la, nN_ad, nN_lm, nN_ml, nN_le, nN_lt, nN_eq, nN_lel, nN_lle, nN_ltl, nN_llt, nN_eql, nN_rm, nN_dv, ob_s, ob_2, ob_3, ite_true, ite_false, not_true_eq_false, not_false_eq_true, ite_self, eq_self, Nat.add_zero, decide_true, decide_false, decide_not, Bool.not_true, Bool.not_false, Bool.true_and, Bool.false_and, Bool.and_true, Bool.and_false, Bool.or_true, Bool.true_or, Bool.or_false, Bool.false_or, if_true, if_false, Bool.false_eq_true, z01_0, z01_1]
    exact fin
  · cases hi2 : inr y nd
    · have : tX10_meets_L11 4000 x y 0 t1' = some (.inl t1') := by
        rw [show 4000 = 3999 + 1 from rfl, tX10_meets_L11]
        simp only [tA_e, tA_l, tW0_e, tW0_l, nN_al, nN_la, nN_ad, nN_lm, nN_ml, nN_le, nN_lt, nN_eq, nN_lel, nN_lle, nN_ltl, nN_llt, nN_eql, nN_rm, nN_dv, ob_s, ob_2, ob_3, ite_true, ite_false, not_true_eq_false, not_false_eq_true, ite_self, eq_self, Nat.add_zero, c1, e3.isDay', hi, hi2, bI_0, Bool.true_eq_false]
      rw [this]
      simp only [tA_e, tA_l, tW0_e, tW0_l, nN_al, nN_la, nN_ad, nN_lm, nN_ml, nN_le, nN_lt, nN_eq, nN_lel, nN_lle, nN_ltl, nN_llt, nN_eql, nN_rm, nN_dv, ob_s, ob_2, ob_3, ite_true, ite_false, not_true_eq_false, not_false_eq_true, ite_self, eq_self, Nat.add_zero, decide_true, decide_false, decide_not, Bool.not_true, Bool.not_false, Bool.true_and, Bool.false_and, Bool.and_true, Bool.and_false, Bool.or_true, Bool.true_or, Bool.or_false, Bool.false_or, if_true, if_false, Bool.false_eq_true, z01_0, z01_1, Bool.true_eq_false]
      exact fin
    · by_cases c2 : x = y
      · have : tX10_meets_L11 4000 x y 0 t1' = some (.inl t1') := by
          rw [show 4000 = 3999 + 1 from rfl, tX10_meets_L11]
          simp only [tA_e, tA_l, tW0_e, tW0_l, nN_al, nN_la, nN_ad, nN_lm, nN_ml, nN_le, nN_lt, nN_eq, nN_lel, nN_lle, nN_ltl, nN_llt, nN_eql, nN_rm, nN_dv, ob_s, ob_2, ob_3, ite_true, ite_false, not_true_eq_false, not_false_eq_true, ite_self, eq_self, Nat.add_zero, c1, e3.isDay', hi, hi2, bI_0, Bool.true_eq_false, eq_true c2]
        rw [this]
        simp only [tA_e, tA_l, tW0_e, tW0_l, nN_al, nN_la, nN_ad, nN_lm, nN_ml, nN_le, nN_lt, nN_eq, nN_lel, nN_lle, nN_ltl, nN_llt, nN_eql, nN_rm, nN_dv, ob_s, ob_2, ob_3, ite_true, ite_false, not_true_eq_false, not_false_eq_true, ite_self, eq_self, Nat.add_zero, decide_true, decide_false, decide_not, Bool.not_true, Bool.not_false, Bool.true_and, Bool.false_and, Bool.and_true, Bool.and_false, Bool.or_true, Bool.true_or, Bool.or_false, Bool.false_or, if_true, if_false, Bool.false_eq_true, z01_0, z01_1, Bool.true_eq_false, eq_true c2]
        exact fin
      · obtain ⟨d, hd, rfl⟩ := inr_t hi
        obtain ⟨e, he, rfl⟩ := inr_t hi2
        have hde : d ≠ e := fun z => c2 (by rw [z])
        simp only [ob_s, ite_true, ite_false, Bool.true_eq_false, c2, not_false_eq_true]
        exact (PQ.meL hd he hde 61 0 4000 4000 n m S t1 t1' e3 (by omega) (by omega) (by omega) (by omega)).qa h.1 _
end
