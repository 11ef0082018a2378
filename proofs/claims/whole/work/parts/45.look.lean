/-! ===== PURE: look, spare, defer ===== -/
section
variable {v nh nd st a b n m : Nat} {V : Nat → Nat → Nat} {S : Nat → Nat → Int32} {t0 t0' t t' : tS}
theorem QR.try0 {N : Nat} (h : QR v nh nd st V N t t') : ∃ n m S t1 t1', tX6_copyFrom 10 3 t = some t1 ∧ tX10_triesNow t' = some t1' ∧ PQ v nh nd st V n m S t t' t1 t1' ∧ (∀ j, j < nh → NN (S 1 j) 10) ∧ (∀ d, d < nd → S 2 d = nI (V 7 d)) ∧ n ≤ 1000 ∧ m ≤ 6000 ∧ CS nh nd 3 n m S t ∧ MS nh nd 0 n m S t' := by
  obtain ⟨h1, h2, h3, ⟨n, m, S, s1, s2, s3, s4, s5, s6, s7⟩, h5⟩ := h
  obtain ⟨t1, t1', e1, e2, e3, e4, e5⟩ := h3.try (a2 := 10) (b2 := 987) s1 s2 (by omega) (by omega) (by omega) (by omega) (by omega)
  refine ⟨n, m, S, t1, t1', e1, ?_, ⟨e3, s3, by rw [e4.2.2]; exact h2⟩, s4, s5, by omega, by omega, s1, s2⟩
  unfold tX10_triesNow
  have e2' : tX10_copies 0 987 30 t' = some t1' := e2
  rw [e2']
  rfl
theorem max_e {x y : Int32} : tJ9_max_7cf53 x y t = some (if y ≤ x then x else y) := by
  unfold tJ9_max_7cf53
  have e : x < y ↔ ¬ y ≤ x := by rw [Int32.lt_iff_toInt_lt, Int32.le_iff_toInt_le]; omega
  simp only [e]
  by_cases c : y ≤ x
  · simp only [tA_e, tA_l, tW0_e, tW0_l, nN_al, nN_la, nN_ad, nN_lm, nN_ml, nN_le, nN_lt, nN_eq, nN_lel, nN_lle, nN_ltl, nN_llt, nN_eql, nN_rm, nN_dv, ob_s, ob_2, ob_3, ite_true, ite_false, not_true_eq_false, not_false_eq_true, ite_self, eq_self, Nat.add_zero, c]
  · simp only [tA_e, tA_l, tW0_e, tW0_l, nN_al, nN_la, nN_ad, nN_lm, nN_ml, nN_le, nN_lt, nN_eq, nN_lel, nN_lle, nN_ltl, nN_llt, nN_eql, nN_rm, nN_dv, ob_s, ob_2, ob_3, ite_true, ite_false, not_true_eq_false, not_false_eq_true, ite_self, eq_self, Nat.add_zero, c]
theorem PQ.mtL (h : PQ v nh nd st V n m S t0 t0' t t') {y : Nat} (hy : y < 2 ^ nd) : ∀ (k i f f' : Nat) (x a2 a3 a4 : Int32), i + k = nh → k < f → k < f' → ∃ r, tX9_mostTogether_L4 f (nI y) x (nI i) t = some r ∧ tX10_look_L37 f' (nI y) a2 a3 a4 x (nI i) t' = some r := by
  have h6 := h.1.h6
  have h4 := h.1.h4
  have p64 : 2 ^ nd ≤ 64 := by rw [show 64 = 2 ^ 6 from rfl]; exact Nat.pow_le_pow_right (by decide) h6
  intro k
  induction k with
  | zero =>
    intro i f f' x a2 a3 a4 hi hf hf'
    obtain ⟨f, rfl⟩ : ∃ g, f = g + 1 := ⟨f - 1, by omega⟩
    obtain ⟨f', rfl⟩ : ∃ g, f' = g + 1 := ⟨f' - 1, by omega⟩
    obtain rfl : i = nh := by omega
    rw [tX9_mostTogether_L4, tX10_look_L37]
    simp (disch := omega) only [tA_e, tA_l, tW0_e, tW0_l, nN_al, nN_la, nN_ad, nN_lm, nN_ml, nN_le, nN_lt, nN_eq, nN_lel, nN_lle, nN_ltl, nN_llt, nN_eql, nN_rm, nN_dv, ob_s, ob_2, ob_3, ite_true, ite_false, not_true_eq_false, not_false_eq_true, ite_self, eq_self, Nat.add_zero, h.rv, h.1.ch, h.1.houses, Nat.le_refl]
    exact ⟨_, rfl, rfl⟩
  | succ k ih =>
    intro i f f' x a2 a3 a4 hi hf hf'
    obtain ⟨f, rfl⟩ : ∃ g, f = g + 1 := ⟨f - 1, by omega⟩
    obtain ⟨f', rfl⟩ : ∃ g, f' = g + 1 := ⟨f' - 1, by omega⟩
    have c1 : ¬ nh ≤ i := by omega
    have g1 : y &&& gs (S 4) (nI i) nd < 64 := Nat.lt_of_le_of_lt Nat.and_le_left (by omega)
    have g2 : gs (S 4) (nI i) nd &&& y < 64 := Nat.lt_of_le_of_lt Nat.and_le_right (by omega)
    have g3 : tX10_inHouse 987 (nI i) t' = some (nI (gs (S 4) (nI i) nd)) := h.1.inHouse
    rw [tX9_mostTogether_L4, tX10_look_L37]
    simp (disch := omega) only [tA_e, tA_l, tW0_e, tW0_l, nN_al, nN_la, nN_ad, nN_lm, nN_ml, nN_le, nN_lt, nN_eq, nN_lel, nN_lle, nN_ltl, nN_llt, nN_eql, nN_rm, nN_dv, ob_s, ob_2, ob_3, ite_true, ite_false, not_true_eq_false, not_false_eq_true, ite_self, eq_self, Nat.add_zero, h.rv, h.1.ch, h.1.houses, c1, h.1.guests, g3, nN_and, bc_e g1, bits_e g2, max_e]
    rw [Nat.and_comm (gs (S 4) (nI i) nd) y]
    by_cases c : nI (pc (y &&& gs (S 4) (nI i) nd)) ≤ x
    · simp only [tA_e, tA_l, tW0_e, tW0_l, nN_al, nN_la, nN_ad, nN_lm, nN_ml, nN_le, nN_lt, nN_eq, nN_lel, nN_lle, nN_ltl, nN_llt, nN_eql, nN_rm, nN_dv, ob_s, ob_2, ob_3, ite_true, ite_false, not_true_eq_false, not_false_eq_true, ite_self, eq_self, Nat.add_zero, eq_true c]
      exact ih (i + 1) f f' _ _ _ _ (by omega) (by omega) (by omega)
    · simp only [tA_e, tA_l, tW0_e, tW0_l, nN_al, nN_la, nN_ad, nN_lm, nN_ml, nN_le, nN_lt, nN_eq, nN_lel, nN_lle, nN_ltl, nN_llt, nN_eql, nN_rm, nN_dv, ob_s, ob_2, ob_3, ite_true, ite_false, not_true_eq_false, not_false_eq_true, ite_self, eq_self, Nat.add_zero, c]
      exact ih (i + 1) f f' _ _ _ _ (by omega) (by omega) (by omega)
theorem PQ.mt (h : PQ v nh nd st V n m S t0 t0' t t') {y : Nat} (hy : y < 2 ^ nd) (a2 a3 a4 : Int32) : ∃ r, tX9_mostTogether (nI y) t = some r ∧ tX10_look_L37 4000 (nI y) a2 a3 a4 0 (-1) t' = some r := by
  have h6 := h.1.h6
  have h4 := h.1.h4
  have p64 : 2 ^ nd ≤ 64 := by rw [show 64 = 2 ^ 6 from rfl]; exact Nat.pow_le_pow_right (by decide) h6
  have c1 : ¬ nI nh ≤ (-1 : Int32) := by
    rw [Int32.le_iff_toInt_le, nN_toInt (by omega), show (-1 : Int32).toInt = -1 from by decide]
    omega
  have g1 : y &&& gs (S 4) (-1) nd < 64 := Nat.lt_of_le_of_lt Nat.and_le_left (by omega)
  have g2 : gs (S 4) (-1) nd &&& y < 64 := Nat.lt_of_le_of_lt Nat.and_le_right (by omega)
  have g3 : tX10_inHouse 987 (-1) t' = some (nI (gs (S 4) (-1) nd)) := h.1.inHouse
  have z : (-1 : Int32) + 1 = nI 0 := by decide
  unfold tX9_mostTogether
  rw [show 4000 = 3999 + 1 from rfl, tX9_mostTogether_L4, tX10_look_L37]
  simp (disch := omega) only [z, ob_s, ite_true, ite_false, h.rv, h.1.ch, h.1.houses, c1, h.1.guests, g3, nN_and, bc_e g1, bits_e g2, max_e]
  rw [Nat.and_comm (gs (S 4) (-1) nd) y]
  by_cases c : nI (pc (y &&& gs (S 4) (-1) nd)) ≤ 0
  · simp only [ob_s, eq_true c, ite_true]
    obtain ⟨r, r1, r2⟩ := h.mtL hy nh 0 3999 3999 0 a2 a3 a4 (by omega) (by omega) (by omega)
    rw [r1, r2]
    exact ⟨r, rfl, rfl⟩
  · simp only [ob_s, c, ite_false]
    obtain ⟨r, r1, r2⟩ := h.mtL hy nh 0 3999 3999 (nI (pc (y &&& gs (S 4) (-1) nd))) a2 a3 a4 (by omega) (by omega) (by omega)
    rw [r1, r2]
    exact ⟨r, rfl, rfl⟩
theorem PQ.loL {y : Nat} (hy : y < 2 ^ nd) : ∀ (k i f f' n m : Nat) (b1 b2 : Int32) (S : Nat → Nat → Int32) (t t' : tS), PQ v nh nd st V n m S t0 t0' t t' → n + k < 900000 → i + k = 25 → k < f → k < f' → ∃ r n1 m1 S1 t1 t1', tX9_look_L26 f (nI y) b1 b2 (nI i) t = some (r, t1) ∧ tX10_look_L24 f' (nI y) b1 b2 (nI i) t' = some (r, t1') ∧ PQ v nh nd st V n1 m1 S1 t0 t0' t1 t1' := by
  intro k
  induction k with
  | zero =>
    intro i f f' n m b1 b2 S t t' h hn hi hf hf'
    obtain ⟨f, rfl⟩ : ∃ g, f = g + 1 := ⟨f - 1, by omega⟩
    obtain ⟨f', rfl⟩ : ∃ g, f' = g + 1 := ⟨f' - 1, by omega⟩
    have c1 : 24 < i := by omega
    rw [tX9_look_L26, tX10_look_L24]
    simp (disch := omega) only [tA_e, tA_l, tW0_e, tW0_l, nN_al, nN_la, nN_ad, nN_lm, nN_ml, nN_le, nN_lt, nN_eq, nN_lel, nN_lle, nN_ltl, nN_llt, nN_eql, nN_rm, nN_dv, ob_s, ob_2, ob_3, ite_true, ite_false, not_true_eq_false, not_false_eq_true, ite_self, eq_self, Nat.add_zero, c1]
    exact ⟨_, _, _, _, _, _, rfl, rfl, h⟩
  | succ k ih =>
    intro i f f' n m b1 b2 S t t' h hn hi hf hf'
    obtain ⟨f, rfl⟩ : ∃ g, f = g + 1 := ⟨f - 1, by omega⟩
    obtain ⟨f', rfl⟩ : ∃ g, f' = g + 1 := ⟨f' - 1, by omega⟩
    have c1 : ¬ 24 < i := by omega
    obtain ⟨S1, c2, o1, t1, t1', e1, e2, e3, _⟩ := h.pass (by omega)
    obtain ⟨r, r1, r2⟩ := h.mt hy b1 b2 (nI i)
    rw [tX9_look_L26, tX10_look_L24]
    simp (disch := omega) only [tA_e, tA_l, tW0_e, tW0_l, nN_al, nN_la, nN_ad, nN_lm, nN_ml, nN_le, nN_lt, nN_eq, nN_lel, nN_lle, nN_ltl, nN_llt, nN_eql, nN_rm, nN_dv, ob_s, ob_2, ob_3, ite_true, ite_false, not_true_eq_false, not_false_eq_true, ite_self, eq_self, Nat.add_zero, c1, e1, e2, r1, r2]
    by_cases c : b2 ≤ r
    · simp only [tA_e, tA_l, tW0_e, tW0_l, nN_al, nN_la, nN_ad, nN_lm, nN_ml, nN_le, nN_lt, nN_eq, nN_lel, nN_lle, nN_ltl, nN_llt, nN_eql, nN_rm, nN_dv, ob_s, ob_2, ob_3, ite_true, ite_false, not_true_eq_false, not_false_eq_true, ite_self, eq_self, Nat.add_zero, eq_true c]
      exact ih (i + 1) f f' _ _ _ _ _ _ _ e3 (by omega) (by omega) (by omega) (by omega)
    · simp only [tA_e, tA_l, tW0_e, tW0_l, nN_al, nN_la, nN_ad, nN_lm, nN_ml, nN_le, nN_lt, nN_eq, nN_lel, nN_lle, nN_ltl, nN_llt, nN_eql, nN_rm, nN_dv, ob_s, ob_2, ob_3, ite_true, ite_false, not_true_eq_false, not_false_eq_true, ite_self, eq_self, Nat.add_zero, c]
      exact ih (i + 1) f f' _ _ _ _ _ _ _ e3 (by omega) (by omega) (by omega) (by omega)
theorem q_look {w p q N : Nat} (h : GP v w p q nh nd st V N t t') : QA (tX9_look t) (tX10_look t') t t' := by
  have h6 := h.h6
  have p64 : 2 ^ nd ≤ 64 := by rw [show 64 = 2 ^ 6 from rfl]; exact Nat.pow_le_pow_right (by decide) h6
  obtain ⟨y, t1, t1', y1, e1, e2, e3, e4⟩ := who_e h
  obtain ⟨n, m, S, t2, t2', f1, f2, f3, f4, f5, f6, f7, _⟩ := (h.q e3 e4).qr.try0
  obtain ⟨r, n3, m3, S3, t3, t3', g1, g2, g3⟩ := PQ.loL y1 25 0 4000 4000 n m (-1) (nI (pc y)) S t2 t2' f3 (by omega) (by omega) (by omega) (by omega)
  rw [show nI 0 = (0 : Int32) from rfl] at g1 g2
  unfold tX9_look tX10_look
  simp only [ob_s, e1, e2, ob_2, bc_e (show y < 64 by omega), bits_e (show y < 64 by omega), f1, f2, g1, g2]
  exact ⟨_, _, _, rfl, rfl, e3.tr (g3.fr.1.yq h.qr.1), e4.tr (g3.fr.2.zq (by decide))⟩
theorem PQ.caL {K : Nat} (hK : K < 1000) {y : Int32} : ∀ (k i f' n m : Nat) (S : Nat → Nat → Int32) (t t' : tS), PQ v nh nd st V n m S t0 t0' t t' → n + k < 900000 → i + k = K → k < f' → ∃ m1 t1', tX10_isCalm_L11 f' (nI K) y (nI i) t' = some t1' ∧ MF 987 t0' t1' ∧ t1'.2.1 234 988 = nI m1 ∧ m ≤ m1 ∧ m1 ≤ m + 6 * k := by
  intro k
  induction k with
  | zero =>
    intro i f' n m S t t' h hn hi hf'
    obtain ⟨f', rfl⟩ : ∃ g, f' = g + 1 := ⟨f' - 1, by omega⟩
    obtain rfl : i = K := by omega
    rw [tX10_isCalm_L11]
    simp (disch := omega) only [tA_e, tA_l, tW0_e, tW0_l, nN_al, nN_la, nN_ad, nN_lm, nN_ml, nN_le, nN_lt, nN_eq, nN_lel, nN_lle, nN_ltl, nN_llt, nN_eql, nN_rm, nN_dv, ob_s, ob_2, ob_3, ite_true, ite_false, not_true_eq_false, not_false_eq_true, ite_self, eq_self, Nat.add_zero, Nat.le_refl]
    exact ⟨_, _, rfl, h.fr.2, h.mo, Nat.le_refl _, Nat.le_refl _⟩
  | succ k ih =>
    intro i f' n m S t t' h hn hi hf'
    obtain ⟨f', rfl⟩ : ∃ g, f' = g + 1 := ⟨f' - 1, by omega⟩
    have c1 : ¬ K ≤ i := by omega
    obtain ⟨S1, c2, o1, t1, t1', e1, e2, e3, _⟩ := h.pass (by omega)
    rw [tX10_isCalm_L11]
    simp (disch := omega) only [tA_e, tA_l, tW0_e, tW0_l, nN_al, nN_la, nN_ad, nN_lm, nN_ml, nN_le, nN_lt, nN_eq, nN_lel, nN_lle, nN_ltl, nN_llt, nN_eql, nN_rm, nN_dv, ob_s, ob_2, ob_3, ite_true, ite_false, not_true_eq_false, not_false_eq_true, ite_self, eq_self, Nat.add_zero, c1, e2]
    obtain ⟨m1, t2', a1, a2, a3, a4, a5⟩ := ih (i + 1) f' _ _ _ _ _ e3 (by omega) (by omega) (by omega)
    have := pcn_le o1 6
    unfold pc at a4 a5
    exact ⟨m1, t2', a1, a2, a3, by omega, by omega⟩
theorem PQ.noL {K : Nat} (hK : K < 1000) {y : Int32} : ∀ (k i f f' n m : Nat) (S : Nat → Nat → Int32) (t t' : tS), PQ v nh nd st V n m S t0 t0' t t' → n + k < 900000 → i + k = K → k < f → k < f' → ∃ (c : Bool) (m1 : Nat) (t1 t1' : tS), tX9_noneTurnedOff_L2 f (nI K) (nI i) t = some (if c = true then .inl t1 else .inr (0, t1)) ∧ tX10_isCalm_L11 f' (nI K) y (nI i) t' = some t1' ∧ CF 10 v t0 t1 ∧ MF 987 t0' t1' ∧ t1'.2.1 234 988 = nI m1 ∧ m ≤ m1 ∧ m1 ≤ m + 6 * k ∧ (c = true ↔ m1 = m) := by
  intro k
  induction k with
  | zero =>
    intro i f f' n m S t t' h hn hi hf hf'
    obtain ⟨f, rfl⟩ : ∃ g, f = g + 1 := ⟨f - 1, by omega⟩
    obtain ⟨f', rfl⟩ : ∃ g, f' = g + 1 := ⟨f' - 1, by omega⟩
    obtain rfl : i = K := by omega
    rw [tX9_noneTurnedOff_L2, tX10_isCalm_L11]
    simp (disch := omega) only [tA_e, tA_l, tW0_e, tW0_l, nN_al, nN_la, nN_ad, nN_lm, nN_ml, nN_le, nN_lt, nN_eq, nN_lel, nN_lle, nN_ltl, nN_llt, nN_eql, nN_rm, nN_dv, ob_s, ob_2, ob_3, ite_true, ite_false, not_true_eq_false, not_false_eq_true, ite_self, eq_self, Nat.add_zero, Nat.le_refl]
    exact ⟨true, _, _, _, rfl, rfl, h.fr.1, h.fr.2, h.mo, Nat.le_refl _, Nat.le_refl _, by simp⟩
  | succ k ih =>
    intro i f f' n m S t t' h hn hi hf hf'
    obtain ⟨f, rfl⟩ : ∃ g, f = g + 1 := ⟨f - 1, by omega⟩
    obtain ⟨f', rfl⟩ : ∃ g, f' = g + 1 := ⟨f' - 1, by omega⟩
    have c1 : ¬ K ≤ i := by omega
    obtain ⟨S1, c2, o1, t1, t1', e1, e2, e3, e4, ⟨k1, k2, k3, k4⟩, e6, e7, _⟩ := h.pass (by omega)
    rw [tX9_noneTurnedOff_L2, tX10_isCalm_L11]
    simp (disch := omega) only [tA_e, tA_l, tW0_e, tW0_l, nN_al, nN_la, nN_ad, nN_lm, nN_ml, nN_le, nN_lt, nN_eq, nN_lel, nN_lle, nN_ltl, nN_llt, nN_eql, nN_rm, nN_dv, ob_s, ob_2, ob_3, ite_true, ite_false, not_true_eq_false, not_false_eq_true, ite_self, eq_self, Nat.add_zero, c1, e1, e2, k2]
    by_cases c : o1 = 0
    · simp only [tA_e, tA_l, tW0_e, tW0_l, nN_al, nN_la, nN_ad, nN_lm, nN_ml, nN_le, nN_lt, nN_eq, nN_lel, nN_lle, nN_ltl, nN_llt, nN_eql, nN_rm, nN_dv, ob_s, ob_2, ob_3, ite_true, ite_false, not_true_eq_false, not_false_eq_true, ite_self, eq_self, Nat.add_zero, eq_true c]
      subst c
      rw [pc_0, Nat.add_zero] at e3
      obtain ⟨c, m1, t2, t2', a1, a2, a3, a4, a5, a6, a7, a8⟩ := ih (i + 1) f f' _ _ _ _ _ e3 (by omega) (by omega) (by omega) (by omega)
      exact ⟨c, m1, t2, t2', a1, a2, a3, a4, a5, a6, by omega, a8⟩
    · simp only [tA_e, tA_l, tW0_e, tW0_l, nN_al, nN_la, nN_ad, nN_lm, nN_ml, nN_le, nN_lt, nN_eq, nN_lel, nN_lle, nN_ltl, nN_llt, nN_eql, nN_rm, nN_dv, ob_s, ob_2, ob_3, ite_true, ite_false, not_true_eq_false, not_false_eq_true, ite_self, eq_self, Nat.add_zero, c]
      obtain ⟨m1, t2', a1, a2, a3, a4, a5⟩ := PQ.caL (y := y) hK k (i + 1) f' _ _ _ _ _ e3 (by omega) (by omega) (by omega)
      have h1 := pcn_le o1 6
      have h2 := pc_p e7
      have h3 : pc o1 ≠ 0 := fun z => c (h2.1 z)
      have h4 : pc o1 ≤ 6 := h1
      exact ⟨false, m1, t1, t2', rfl, a1, e3.fr.1, a2, a3, by omega, by omega, ⟨fun z => absurd z (by decide), fun z => absurd z (by omega)⟩⟩
theorem PQ.calm (h : PQ v nh nd st V n m S t0 t0' t t') {K : Nat} (hK : K < 1000) (hn : n + K < 900000) (hm : m + 6 * K < 900000) : ∃ (c : Bool) (t1 t1' : tS), tX9_noneTurnedOff (nI K) t = some (bI c, t1) ∧ tX10_isCalm (nI K) t' = some (bI c, t1') ∧ CF 10 v t0 t1 ∧ MF 987 t0' t1' := by
  obtain ⟨c, m1, t1, t1', a1, a2, a3, a4, a5, a6, a7, a8⟩ := PQ.noL (y := nI m) hK K 0 4000 4000 n m S t t' h (by omega) (by omega) (by omega) (by omega)
  rw [show nI 0 = (0 : Int32) from rfl] at a1 a2
  refine ⟨c, t1, t1', ?_, ?_, a3, a4⟩
  · unfold tX9_noneTurnedOff
    rw [a1]
    cases c <;> rfl
  · unfold tX10_isCalm
    simp (disch := omega) only [tA_e, tA_l, tW0_e, tW0_l, nN_al, nN_la, nN_ad, nN_lm, nN_ml, nN_le, nN_lt, nN_eq, nN_lel, nN_lle, nN_ltl, nN_llt, nN_eql, nN_rm, nN_dv, ob_s, ob_2, ob_3, ite_true, ite_false, not_true_eq_false, not_false_eq_true, ite_self, eq_self, Nat.add_zero, h.mo, a2, a5]
    cases c
    · have z : ¬ m1 = m := fun z => absurd (a8.2 z) (by decide)
      simp only [tA_e, tA_l, tW0_e, tW0_l, nN_al, nN_la, nN_ad, nN_lm, nN_ml, nN_le, nN_lt, nN_eq, nN_lel, nN_lle, nN_ltl, nN_llt, nN_eql, nN_rm, nN_dv, ob_s, ob_2, ob_3, ite_true, ite_false, not_true_eq_false, not_false_eq_true, ite_self, eq_self, Nat.add_zero, decide_true, decide_false, decide_not, Bool.not_true, Bool.not_false, Bool.true_and, Bool.false_and, Bool.and_true, Bool.and_false, Bool.or_true, Bool.true_or, Bool.or_false, Bool.false_or, if_true, if_false, Bool.false_eq_true, z01_0, z01_1, z]
      rfl
    · have z := a8.1 rfl
      simp only [tA_e, tA_l, tW0_e, tW0_l, nN_al, nN_la, nN_ad, nN_lm, nN_ml, nN_le, nN_lt, nN_eq, nN_lel, nN_lle, nN_ltl, nN_llt, nN_eql, nN_rm, nN_dv, ob_s, ob_2, ob_3, ite_true, ite_false, not_true_eq_false, not_false_eq_true, ite_self, eq_self, Nat.add_zero, decide_true, decide_false, decide_not, Bool.not_true, Bool.not_false, Bool.true_and, Bool.false_and, Bool.and_true, Bool.and_false, Bool.or_true, Bool.true_or, Bool.or_false, Bool.false_or, if_true, if_false, Bool.false_eq_true, z01_0, z01_1, eq_true z]
      rfl
theorem PQ.w1 (h : PQ v nh nd st V n m S t0 t0' t t') {j : Nat} {x : Int32} (hj : j < nh) : PQ v nh nd st V n m (up2 S 1 j x) t0 t0' (uA t 11 j x) (uA t' 234 (989 + j) x) := ⟨h.1.w1 hj, h.2.1.w6 (.inr rfl), h.2.2⟩
theorem spL {w p q N : Nat} (h : GP v w p q nh nd st V N t t') : ∀ (k i f f' : Nat) (x : Int32) (T T' : tS), YQ t T → ZQ t' T' → i + k = nh → k < f → k < f' → ∃ r T1 T1', tX9_spare_L4 f x (nI i) T = some (r, T1) ∧ tX10_spare_L9 f' x (nI i) T' = some (r, T1') ∧ YQ t T1 ∧ ZQ t' T1' := by
  have h4 := h.h4
  have hv := h.qr.1
  intro k
  induction k with
  | zero =>
    intro i f f' x T T' hy hz hi hf hf'
    obtain ⟨f, rfl⟩ : ∃ g, f = g + 1 := ⟨f - 1, by omega⟩
    obtain ⟨f', rfl⟩ : ∃ g, f' = g + 1 := ⟨f' - 1, by omega⟩
    obtain rfl : i = nh := by omega
    obtain ⟨n, m, S, t1, t1', e1, e2, e3, e4, e5, e6, e7, e8, e9⟩ := (h.q hy hz).qr.try0
    have b := (h.q hy hz).2.2.2.1
    have rv : T.2.2.2.2 0 9 = v := (h.q hy hz).2.2.1.1
    have ch : T.1 v 11 = nI i := b.2.2.1.1
    have mh : tX10_houses T' = some (nI i) := by
      unfold tX10_houses
      rw [show (0 : Int32) = nI 0 from rfl, tA_e (by omega) (by omega), ob_s]
      exact congrArg some b.2.2.2.1.1
    rw [tX9_spare_L4, tX10_spare_L9]
    simp (disch := omega) only [tA_e, tA_l, tW0_e, tW0_l, nN_al, nN_la, nN_ad, nN_lm, nN_ml, nN_le, nN_lt, nN_eq, nN_lel, nN_lle, nN_ltl, nN_llt, nN_eql, nN_rm, nN_dv, ob_s, ob_2, ob_3, ite_true, ite_false, not_true_eq_false, not_false_eq_true, ite_self, eq_self, Nat.add_zero, rv, ch, mh, Nat.le_refl]
    exact ⟨_, _, _, rfl, rfl, hy, hz⟩
  | succ k ih =>
    intro i f f' x T T' hy hz hi hf hf'
    obtain ⟨f, rfl⟩ : ∃ g, f = g + 1 := ⟨f - 1, by omega⟩
    obtain ⟨f', rfl⟩ : ∃ g, f' = g + 1 := ⟨f' - 1, by omega⟩
    have c1 : ¬ nh ≤ i := by omega
    have hj : i < nh := by omega
    obtain ⟨n, m, S, t1, t1', e1, e2, e3, e4, e5, e6, e7, e8, e9⟩ := (h.q hy hz).qr.try0
    have b := (h.q hy hz).2.2.2.1
    have rv : T.2.2.2.2 0 9 = v := (h.q hy hz).2.2.1.1
    have ch : T.1 v 11 = nI nh := b.2.2.1.1
    have mh : tX10_houses T' = some (nI nh) := by
      unfold tX10_houses
      rw [show (0 : Int32) = nI 0 from rfl, tA_e (by omega) (by omega), ob_s]
      exact congrArg some b.2.2.2.1.1
    obtain ⟨z, z1, z2⟩ := e4 i hj
    have b1 : T.2.1 4 i = nI z := (e8.2.2.2.1 i hj).trans z2
    have w1 := e3.w1 (x := S 1 i - 1) hj
    have b2 : (uA t1' 234 (989 + i) (S 1 i - 1)).2.1 234 (2 + i) = nI z := by
      rw [uA_2, if_neg (by omega), e3.fr.2.2.1 _ _ (by omega) (by omega) (by omega)]
      have := e9.2.2.1 i hj
      rw [show 0 + 2 + i = 2 + i from by omega] at this
      exact this.trans z2
    rw [tX9_spare_L4, tX10_spare_L9]
    simp (disch := omega) only [tA_e, tA_l, tW0_e, tW0_l, nN_al, nN_la, nN_ad, nN_lm, nN_ml, nN_le, nN_lt, nN_eq, nN_lel, nN_lle, nN_ltl, nN_llt, nN_eql, nN_rm, nN_dv, ob_s, ob_2, ob_3, ite_true, ite_false, not_true_eq_false, not_false_eq_true, ite_self, eq_self, Nat.add_zero, rv, ch, mh, c1, b1, e1, e2, e3.m1 hj, e3.c1 hj, b2]
    by_cases c : z ≤ 1
    · simp only [tA_e, tA_l, tW0_e, tW0_l, nN_al, nN_la, nN_ad, nN_lm, nN_ml, nN_le, nN_lt, nN_eq, nN_lel, nN_lle, nN_ltl, nN_llt, nN_eql, nN_rm, nN_dv, ob_s, ob_2, ob_3, ite_true, ite_false, not_true_eq_false, not_false_eq_true, ite_self, eq_self, Nat.add_zero, eq_true c, Int32.or_zero]
      exact ih (i + 1) f f' _ _ _ hy (hz.tr (w1.fr.2.zq (by decide))) (by omega) (by omega) (by omega)
    · obtain ⟨b9, t2, t2', g1, g2, g3, g4⟩ := w1.calm (K := 24) (by omega) (by omega) (by omega)
      have g1' : tX9_noneTurnedOff 24 (uA t1 11 i (S 1 i - 1)) = some (bI b9, t2) := g1
      have g2' : tX10_isCalm 24 (uA t1' 234 (989 + i) (S 1 i - 1)) = some (bI b9, t2') := g2
      simp only [tA_e, tA_l, tW0_e, tW0_l, nN_al, nN_la, nN_ad, nN_lm, nN_ml, nN_le, nN_lt, nN_eq, nN_lel, nN_lle, nN_ltl, nN_llt, nN_eql, nN_rm, nN_dv, ob_s, ob_2, ob_3, ite_true, ite_false, not_true_eq_false, not_false_eq_true, ite_self, eq_self, Nat.add_zero, c, g1', g2', bI_0]
      cases b9
      · simp only [tA_e, tA_l, tW0_e, tW0_l, nN_al, nN_la, nN_ad, nN_lm, nN_ml, nN_le, nN_lt, nN_eq, nN_lel, nN_lle, nN_ltl, nN_llt, nN_eql, nN_rm, nN_dv, ob_s, ob_2, ob_3, ite_true, ite_false, not_true_eq_false, not_false_eq_true, ite_self, eq_self, Nat.add_zero, Int32.or_zero]
        exact ih (i + 1) f f' _ _ _ (hy.tr (g3.yq hv)) (hz.tr (g4.zq (by decide))) (by omega) (by omega) (by omega)
      · simp only [tA_e, tA_l, tW0_e, tW0_l, nN_al, nN_la, nN_ad, nN_lm, nN_ml, nN_le, nN_lt, nN_eq, nN_lel, nN_lle, nN_ltl, nN_llt, nN_eql, nN_rm, nN_dv, ob_s, ob_2, ob_3, ite_true, ite_false, not_true_eq_false, not_false_eq_true, ite_self, eq_self, Nat.add_zero, Bool.true_eq_false]
        exact ih (i + 1) f f' _ _ _ (hy.tr (g3.yq hv)) (hz.tr (g4.zq (by decide))) (by omega) (by omega) (by omega)
theorem q_spare {w p q N : Nat} (h : GP v w p q nh nd st V N t t') : QA (tX9_spare t) (tX10_spare t') t t' := by
  have h4 := h.h4
  obtain ⟨r, T, T', e1, e2, e3, e4⟩ := spL h nh 0 4000 4000 0 t (uI t' 218 0 0) YQ.rf (ZQ.th (.inl rfl)) (by omega) (by omega) (by omega)
  rw [show nI 0 = (0 : Int32) from rfl] at e1 e2
  unfold tX9_spare tX10_spare
  simp only [ob_s, e1, e2, ob_2]
  exact ⟨_, _, _, rfl, rfl, e3, e4⟩
theorem MV.days (h : MV nh nd st V t') : tX10_days t' = some (nI nd) := by
  unfold tX10_days
  rw [show (1 : Int32) = nI 1 from rfl, tA_e (by omega) (by omega), ob_s]
  exact congrArg some h.2.1
theorem MV.houses (h : MV nh nd st V t') : tX10_houses t' = some (nI nh) := by
  unfold tX10_houses
  rw [show (0 : Int32) = nI 0 from rfl, tA_e (by omega) (by omega), ob_s]
  exact congrArg some h.1
theorem MV.dayOf2 (h : MV nh nd st V t') (h6 : nd ≤ 6) {j : Nat} (hj : j < nd) : tX10_dayOf (nI j) 2 t' = some (nI (V 7 j)) := by
  unfold tX10_dayOf
  simp (disch := omega) only [tA_e, tA_l, tW0_e, tW0_l, nN_al, nN_la, nN_ad, nN_lm, nN_ml, nN_le, nN_lt, nN_eq, nN_lel, nN_lle, nN_ltl, nN_llt, nN_eql, nN_rm, nN_dv, ob_s, ob_2, ob_3, ite_true, ite_false, not_true_eq_false, not_false_eq_true, ite_self, eq_self, Nat.add_zero, h.2.2.2.2.2.2.2.1 j hj]
theorem MV.dayOf3 (h : MV nh nd st V t') (h6 : nd ≤ 6) {j : Nat} (hj : j < nd) : tX10_dayOf (nI j) 3 t' = some (nI (V 8 j)) := by
  unfold tX10_dayOf
  simp (disch := omega) only [tA_e, tA_l, tW0_e, tW0_l, nN_al, nN_la, nN_ad, nN_lm, nN_ml, nN_le, nN_lt, nN_eq, nN_lel, nN_lle, nN_ltl, nN_llt, nN_eql, nN_rm, nN_dv, ob_s, ob_2, ob_3, ite_true, ite_false, not_true_eq_false, not_false_eq_true, ite_self, eq_self, Nat.add_zero, h.2.2.2.2.2.2.2.2.1 j hj]
theorem MV.houseOf0 (h : MV nh nd st V t') (h6 : nh ≤ 4) {j : Nat} (hj : j < nh) : tX10_houseOf (nI j) 0 t' = some (nI (V 2 j)) := by
  unfold tX10_houseOf
  simp (disch := omega) only [tA_e, tA_l, tW0_e, tW0_l, nN_al, nN_la, nN_ad, nN_lm, nN_ml, nN_le, nN_lt, nN_eq, nN_lel, nN_lle, nN_ltl, nN_llt, nN_eql, nN_rm, nN_dv, ob_s, ob_2, ob_3, ite_true, ite_false, not_true_eq_false, not_false_eq_true, ite_self, eq_self, Nat.add_zero, h.2.2.2.1 j hj]
theorem MV.ag {t1 : tS} (h : MV nh nd st V t') (e : ∀ i, t1.2.1 224 i = t'.2.1 224 i) : MV nh nd st V t1 := by
  unfold MV
  simp only [e]
  exact h
theorem daL : ∀ (k i f : Nat) (T : tS), MV nh nd st V T → nd ≤ 6 → i + k = nd → k < f → ∃ T1, tX10_datesAsTold_L2 f (nI i) T = some T1 ∧ T1.1 = T.1 ∧ (∀ c j, ¬ (c = 236 ∧ i ≤ j ∧ j < nd) → T1.2.1 c j = T.2.1 c j) ∧ (∀ j, i ≤ j → j < nd → T1.2.1 236 j = nI (V 7 j)) ∧ T1.2.2 = T.2.2 := by
  intro k
  induction k with
  | zero =>
    intro i f T h h6 hi hf
    obtain ⟨f, rfl⟩ : ∃ g, f = g + 1 := ⟨f - 1, by omega⟩
    obtain rfl : i = nd := by omega
    rw [tX10_datesAsTold_L2]
    simp (disch := omega) only [tA_e, tA_l, tW0_e, tW0_l, nN_al, nN_la, nN_ad, nN_lm, nN_ml, nN_le, nN_lt, nN_eq, nN_lel, nN_lle, nN_ltl, nN_llt, nN_eql, nN_rm, nN_dv, ob_s, ob_2, ob_3, ite_true, ite_false, not_true_eq_false, not_false_eq_true, ite_self, eq_self, Nat.add_zero, h.days, Nat.le_refl]
    exact ⟨_, rfl, rfl, fun _ _ _ => rfl, fun j _ _ => by omega, rfl⟩
  | succ k ih =>
    intro i f T h h6 hi hf
    obtain ⟨f, rfl⟩ : ∃ g, f = g + 1 := ⟨f - 1, by omega⟩
    have c1 : ¬ nd ≤ i := by omega
    rw [tX10_datesAsTold_L2]
    simp (disch := omega) only [tA_e, tA_l, tW0_e, tW0_l, nN_al, nN_la, nN_ad, nN_lm, nN_ml, nN_le, nN_lt, nN_eq, nN_lel, nN_lle, nN_ltl, nN_llt, nN_eql, nN_rm, nN_dv, ob_s, ob_2, ob_3, ite_true, ite_false, not_true_eq_false, not_false_eq_true, ite_self, eq_self, Nat.add_zero, h.days, c1, h.dayOf2 h6]
    have h1 : MV nh nd st V (uA T 236 i (nI (V 7 i))) := h.ag (fun j => by rw [uA_2, if_neg (by omega)])
    obtain ⟨T1, e1, e2, e3, e4, e5⟩ := ih (i + 1) f _ h1 h6 (by omega) (by omega)
    refine ⟨T1, e1, e2, ?_, ?_, e5⟩
    · intro c j hc
      rw [e3 c j (by omega), uA_2, if_neg (by omega)]
    · intro j h1 h2
      by_cases c : j = i
      · subst c
        rw [e3 _ _ (by omega), uA_2, if_pos ⟨rfl, rfl⟩]
      · exact e4 j (by omega) h2
theorem SK.w2 (h : SK nh nd st S) {d : Nat} {x : Int32} (hx : NN x 12) : SK nh nd st (up2 S 2 d x) := by
  intro e he
  obtain ⟨h2, h3, h4, h5⟩ := h e he
  rw [up2_o (k := 2) (k' := 3) (by decide), up2_o (k := 2) (k' := 4) (by decide), up2_o (k := 2) (k' := 5) (by decide)]
  refine ⟨?_, h3, h4, h5⟩
  by_cases c : e = d
  · rw [c, up2_s]; exact hx
  · rw [up2_d c]; exact h2
theorem PQ.moL {a1 a2 a3 a4 : Int32} : ∀ (k i f f' x n m : Nat) (S : Nat → Nat → Int32) (t t' : tS), PQ v nh nd st V n m S t0 t0' t t' → x ≤ 6 → n + k < 900000 → i + k = 24 → k < f → k < f' → ∃ y t1 t1', y ≤ 6 ∧ tX9_mostAtOnce_L4 f 24 (nI x) (nI i) t = some (nI y, t1) ∧ tX10_defer_L45 f' a1 a2 a3 a4 (nI x) (nI i) t' = some (nI y, t1') ∧ CF 10 v t0 t1 ∧ MF 987 t0' t1' := by
  intro k
  induction k with
  | zero =>
    intro i f f' x n m S t t' h hx hn hi hf hf'
    obtain ⟨f, rfl⟩ : ∃ g, f = g + 1 := ⟨f - 1, by omega⟩
    obtain ⟨f', rfl⟩ : ∃ g, f' = g + 1 := ⟨f' - 1, by omega⟩
    obtain rfl : i = 24 := by omega
    rw [tX9_mostAtOnce_L4, tX10_defer_L45]
    simp (disch := omega) only [tA_e, tA_l, tW0_e, tW0_l, nN_al, nN_la, nN_ad, nN_lm, nN_ml, nN_le, nN_lt, nN_eq, nN_lel, nN_lle, nN_ltl, nN_llt, nN_eql, nN_rm, nN_dv, ob_s, ob_2, ob_3, ite_true, ite_false, not_true_eq_false, not_false_eq_true, ite_self, eq_self, Nat.add_zero, Nat.le_refl]
    exact ⟨_, _, _, hx, rfl, rfl, h.fr.1, h.fr.2⟩
  | succ k ih =>
    intro i f f' x n m S t t' h hx hn hi hf hf'
    obtain ⟨f, rfl⟩ : ∃ g, f = g + 1 := ⟨f - 1, by omega⟩
    obtain ⟨f', rfl⟩ : ∃ g, f' = g + 1 := ⟨f' - 1, by omega⟩
    have c1 : ¬ 24 ≤ i := by omega
    obtain ⟨S1, c2, o1, t1, t1', e1, e2, e3, _⟩ := h.pass (by omega)
    have e4 := e3.1.somewhere
    have e5 : tX10_somewhere 987 t1' = some (nI (sw (S1 4) nd)) := e3.1.somewhere' e3.2.1
    have e6 := e3.1.sw64
    have h1 : pc (sw (S1 4) nd) ≤ 6 := pcn_le _ 6
    rw [tX9_mostAtOnce_L4, tX10_defer_L45]
    simp (disch := omega) only [tA_e, tA_l, tW0_e, tW0_l, nN_al, nN_la, nN_ad, nN_lm, nN_ml, nN_le, nN_lt, nN_eq, nN_lel, nN_lle, nN_ltl, nN_llt, nN_eql, nN_rm, nN_dv, ob_s, ob_2, ob_3, ite_true, ite_false, not_true_eq_false, not_false_eq_true, ite_self, eq_self, Nat.add_zero, c1, e1, e2, e3.rv, e4, e5, bc_e e6, bits_e e6, max_e]
    by_cases c : pc (sw (S1 4) nd) ≤ x
    · simp only [tA_e, tA_l, tW0_e, tW0_l, nN_al, nN_la, nN_ad, nN_lm, nN_ml, nN_le, nN_lt, nN_eq, nN_lel, nN_lle, nN_ltl, nN_llt, nN_eql, nN_rm, nN_dv, ob_s, ob_2, ob_3, ite_true, ite_false, not_true_eq_false, not_false_eq_true, ite_self, eq_self, Nat.add_zero, eq_true c]
      exact ih (i + 1) f f' x _ _ _ _ _ e3 hx (by omega) (by omega) (by omega) (by omega)
    · simp only [tA_e, tA_l, tW0_e, tW0_l, nN_al, nN_la, nN_ad, nN_lm, nN_ml, nN_le, nN_lt, nN_eq, nN_lel, nN_lle, nN_ltl, nN_llt, nN_eql, nN_rm, nN_dv, ob_s, ob_2, ob_3, ite_true, ite_false, not_true_eq_false, not_false_eq_true, ite_self, eq_self, Nat.add_zero, c]
      exact ih (i + 1) f f' _ _ _ _ _ _ e3 h1 (by omega) (by omega) (by omega) (by omega)
/-- what defer may change of the reference on its way -/
def ZD (d : Nat) (t t1 : tS) : Prop := (∀ c k, ¬ (c = 218 ∧ (k = 0 ∨ k = 28 ∨ k = 29)) → t1.1 c k = t.1 c k) ∧ (∀ c i, c ≠ 232 → c ≠ 233 → c ≠ 237 → ¬ (c = 234 ∧ 987 ≤ i) → ¬ (c = 236 ∧ i = d) → t1.2.1 c i = t.2.1 c i) ∧ t1.2.2 = t.2.2
theorem deL {w p q N d : Nat} (h : GP v w p q nh nd st V N t t') (hd : d < nd) : ∀ (k i f f' : Nat) (x x' y y' : Int32) (T T' : tS), ((i = 0 ∧ x = 0 ∧ x' = -1 ∧ y = 7 ∧ y' = 0) ∨ (x = x' ∧ y = y' ∧ NN x 12)) → YQ t T → ZD d t' T' → i + k = 12 → k < f → k < f' → ∃ r T1 T1', tX9_defer_L18 f (nI d) x y (nI i) T = some (r, T1) ∧ tX10_defer_L12 f' (nI d) x' y' (nI i) T' = some (if 0 < i + k then r else x', T1') ∧ YQ t T1 ∧ ZD d t' T1' := by
  have h4 := h.h4
  have h6 := h.h6
  have hv := h.qr.1
  have hd1 : inr (nI d) nd = true := by rw [inr_n (by omega)]; exact decide_eq_true hd
  intro k
  induction k with
  | zero =>
    intro i f f' x x' y y' T T' hx hy hz hi hf hf'
    obtain ⟨f, rfl⟩ : ∃ g, f = g + 1 := ⟨f - 1, by omega⟩
    obtain ⟨f', rfl⟩ : ∃ g, f' = g + 1 := ⟨f' - 1, by omega⟩
    obtain rfl : i = 12 := by omega
    rw [tX9_defer_L18, tX10_defer_L12]
    simp (disch := omega) only [tA_e, tA_l, tW0_e, tW0_l, nN_al, nN_la, nN_ad, nN_lm, nN_ml, nN_le, nN_lt, nN_eq, nN_lel, nN_lle, nN_ltl, nN_llt, nN_eql, nN_rm, nN_dv, ob_s, ob_2, ob_3, ite_true, ite_false, not_true_eq_false, not_false_eq_true, ite_self, eq_self, Nat.add_zero, Nat.le_refl]
    refine ⟨_, _, _, rfl, ?_, hy, hz⟩
    rcases hx with ⟨z, _⟩ | ⟨z, _⟩
    · omega
    · rw [z]
      rfl
  | succ k ih =>
    intro i f f' x x' y y' T T' hx hy hz hi hf hf'
    obtain ⟨f, rfl⟩ : ∃ g, f = g + 1 := ⟨f - 1, by omega⟩
    obtain ⟨f', rfl⟩ : ∃ g, f' = g + 1 := ⟨f' - 1, by omega⟩
    have c1 : ¬ 12 ≤ i := by omega
    obtain ⟨n, m, S, s1, s2, s3, s4, s5, s6, s7⟩ := h.2.2.2.2.1
    have hN := h.2.2.2.2.2.2.2.2.2.2.2.2
    have b := h.2.2.2.1
    obtain ⟨T2, a1, a2, a3⟩ := cp_e (a := 3) (a2 := 10) (t := T) (by omega)
    have cs : CS nh nd 3 n m S T := s1.ag (hy.1 _ _ (by omega)) (hy.1 _ _ (by omega)) (hy.1 _ _ (by omega)) (fun j i _ _ => hy.2.1 _ _ (by omega) (by omega) (by omega) (by omega))
    have cs2 : CS nh nd 10 n m (up2 S 2 d (nI i)) (uA T2 12 d (nI i)) := (a3 nh nd n m S h4 h6 cs).wA (k := 2)
    obtain ⟨T2', b1, b2, b3⟩ := copies_e (p := 0) (q := 987) (N := 30) (t := uA T' 236 d (nI i)) (by omega) (by omega) (by omega)
    have b1' : tX10_triesNow (uA T' 236 d (nI i)) = some T2' := by
      unfold tX10_triesNow
      have b1' : tX10_copies 0 987 30 (uA T' 236 d (nI i)) = some T2' := b1
      rw [b1']
      rfl
    have hy2 : YQ t (uA T2 12 d (nI i)) := by
      refine hy.tr ⟨fun b k hb => a2.1 b k hb, fun b j h1 h2 h3 h4 => ?_, ?_, ?_⟩
      · rw [uA_2, if_neg (by omega), a2.2.1 _ _ (by omega)]
      · show T2.2.2.1 = _
        rw [a2.2.2]
      · show T2.2.2.2.2 = _
        rw [a2.2.2]
    have hz2 : ZD d t' T2' := by
      refine ⟨fun c j hc => ?_, fun c j h1 h2 h3 h4 h5 => ?_, ?_⟩
      · rw [b2.1]
        exact hz.1 c j hc
      · rw [b2.2.1 _ _ (by omega), uA_2, if_neg h5]
        exact hz.2.1 c j h1 h2 h3 h4 h5
      · rw [b2.2.2]
        exact hz.2.2
    have ms : MS nh nd 987 n m (up2 S 2 d (nI i)) T2' := by
      have e : ∀ j, j < 30 → T2'.2.1 234 (987 + j) = t'.2.1 234 (0 + j) := by
        intro j hj
        rw [b3 j hj, uA_2, if_neg (by omega)]
        exact hz.2.1 _ _ (by omega) (by omega) (by omega) (by omega) (by omega)
      obtain ⟨g1, g2, g3, g4, g5, g6, g7, g8⟩ := s2
      refine ⟨(e 0 (by omega)).trans g1, (e 1 (by omega)).trans g2, ?_, ?_, ?_, ?_, ?_, ?_⟩
      · intro j hj
        rw [up2_o (by decide), Nat.add_assoc, e _ (by omega), ← Nat.add_assoc]
        exact g3 j hj
      · intro j hj
        rw [b2.2.1 _ _ (by omega), uA_2]
        by_cases c : j = d
        · subst c
          rw [if_pos ⟨rfl, rfl⟩, up2_s]
        · rw [if_neg (by omega), up2_d c, hz.2.1 _ _ (by omega) (by omega) (by omega) (by omega) (by omega)]
          exact g4 j hj
      · intro j hj
        rw [up2_o (by decide), Nat.add_assoc, e _ (by omega), ← Nat.add_assoc]
        exact g5 j hj
      · intro j hj
        rw [up2_o (by decide), Nat.add_assoc, e _ (by omega), ← Nat.add_assoc]
        exact g6 j hj
      · intro j hj
        rw [up2_o (by decide), Nat.add_assoc, e _ (by omega), ← Nat.add_assoc]
        exact g7 j hj
      · intro j hj
        rw [up2_o (by decide), Nat.add_assoc, e _ (by omega), ← Nat.add_assoc]
        exact g8 j hj
    have br : BR v nh nd st V (uA T2 12 d (nI i)) T2' := b.ag (fun k => hy2.1 _ _ (by omega)) (fun j i _ _ => hy2.2.1 _ _ (by omega) (by omega) (by omega) (by omega)) (hy2.1 _ _ (by omega)) (fun i => hy2.2.1 _ _ (by omega) (by omega) (by omega) (by omega)) (fun i => hz2.2.1 _ _ (by omega) (by omega) (by omega) (by omega) (by omega)) (fun i => hz2.2.1 _ _ (by omega) (by omega) (by omega) (by omega) (by omega)) (fun i => hz2.2.1 _ _ (by omega) (by omega) (by omega) (by omega) (by omega))
    have rv : (uA T2 12 d (nI i)).2.2.2.2 0 9 = v := by
      rw [hy2.2.2.2]
      exact h.2.2.1.1
    have pq : PQ v nh nd st V n m (up2 S 2 d (nI i)) (uA T2 12 d (nI i)) T2' (uA T2 12 d (nI i)) T2' := ⟨PR.of br cs2 ms (by omega) (by omega), s3.w2 ⟨i, by omega, rfl⟩, rv⟩
    obtain ⟨z, T3, T3', z1, z2, z3, z4, z5⟩ := PQ.moL (a1 := nI d) (a2 := x') (a3 := y') (a4 := nI i) 24 0 4000 4000 0 n m _ _ _ pq (by omega) (by omega) (by omega) (by omega) (by omega)
    rw [show nI 0 = (0 : Int32) from rfl] at z2 z3
    have iD : tX10_isDay (nI d) T' = some (bI (inr (nI d) nd)) := by
      have mv : MV nh nd st V T' := b.2.2.2.1.ag (fun i => hz.2.1 _ _ (by omega) (by omega) (by omega) (by omega) (by omega))
      unfold tX10_isDay
      rw [mv.days]
      exact is_m (by omega)
    have hy3 : YQ t T3 := hy2.tr (z4.yq hv)
    have hz3 : ZD d t' T3' := by
      refine ⟨fun c j hc => ?_, fun c j h1 h2 h3 h4 h5 => ?_, ?_⟩
      · rw [z5.1 _ _ (by omega)]
        exact hz2.1 c j hc
      · rw [z5.2.1 _ _ h1 h2 (by omega)]
        exact hz2.2.1 c j h1 h2 h3 h4 h5
      · rw [z5.2.2]
        exact hz2.2.2
    rw [tX9_defer_L18, tX10_defer_L12]
    unfold tX9_mostAtOnce
    simp (disch := omega) only [tA_e, tA_l, tW0_e, tW0_l, nN_al, nN_la, nN_ad, nN_lm, nN_ml, nN_le, nN_lt, nN_eq, nN_lel, nN_lle, nN_ltl, nN_llt, nN_eql, nN_rm, nN_dv, ob_s, ob_2, ob_3, ite_true, ite_false, not_true_eq_false, not_false_eq_true, ite_self, eq_self, Nat.add_zero, c1, a1, iD, hd1, bI_0, Bool.true_eq_false, b1', z2, z3]
    rcases hx with ⟨rfl, rfl, rfl, rfl, rfl⟩ | ⟨rfl, rfl, k9, k91, rfl⟩
    · have e1 : ¬ (7 : Int32) ≤ nI z := by
        rw [show (7 : Int32) = nI 7 from rfl, nN_le (by omega) (by omega)]
        omega
      have e2 : (-1 : Int32) < 0 := by decide
      have e3 : ¬ (1 : Int32) = 0 := by decide
      simp only [tA_e, tA_l, tW0_e, tW0_l, nN_al, nN_la, nN_ad, nN_lm, nN_ml, nN_le, nN_lt, nN_eq, nN_lel, nN_lle, nN_ltl, nN_llt, nN_eql, nN_rm, nN_dv, ob_s, ob_2, ob_3, ite_true, ite_false, not_true_eq_false, not_false_eq_true, ite_self, eq_self, Nat.add_zero, e1, e2, e3]
      obtain ⟨r, T4, T4', g1, g2, g3, g4⟩ := ih (0 + 1) f f' (nI 0) (nI 0) (nI z) (nI z) T3 T3' (.inr ⟨rfl, rfl, 0, by omega, rfl⟩) hy3 hz3 (by omega) (by omega) (by omega)
      refine ⟨r, T4, T4', g1, ?_, g3, g4⟩
      rw [if_pos (by omega)] at g2 ⊢
      exact g2
    · have e2 : ¬ nI k9 < (0 : Int32) := nN_ge0 (by omega)
      have e3 : ¬ (1 : Int32) = 0 := by decide
      by_cases c : y ≤ nI z
      · simp only [tA_e, tA_l, tW0_e, tW0_l, nN_al, nN_la, nN_ad, nN_lm, nN_ml, nN_le, nN_lt, nN_eq, nN_lel, nN_lle, nN_ltl, nN_llt, nN_eql, nN_rm, nN_dv, ob_s, ob_2, ob_3, ite_true, ite_false, not_true_eq_false, not_false_eq_true, ite_self, eq_self, Nat.add_zero, e2, eq_true c]
        obtain ⟨r, T4, T4', g1, g2, g3, g4⟩ := ih (i + 1) f f' (nI k9) (nI k9) y y T3 T3' (.inr ⟨rfl, rfl, k9, k91, rfl⟩) hy3 hz3 (by omega) (by omega) (by omega)
        refine ⟨r, T4, T4', g1, ?_, g3, g4⟩
        rw [if_pos (by omega)] at g2 ⊢
        exact g2
      · simp only [tA_e, tA_l, tW0_e, tW0_l, nN_al, nN_la, nN_ad, nN_lm, nN_ml, nN_le, nN_lt, nN_eq, nN_lel, nN_lle, nN_ltl, nN_llt, nN_eql, nN_rm, nN_dv, ob_s, ob_2, ob_3, ite_true, ite_false, not_true_eq_false, not_false_eq_true, ite_self, eq_self, Nat.add_zero, e2, c, e3]
        obtain ⟨r, T4, T4', g1, g2, g3, g4⟩ := ih (i + 1) f f' (nI i) (nI i) (nI z) (nI z) T3 T3' (.inr ⟨rfl, rfl, i, by omega, rfl⟩) hy3 hz3 (by omega) (by omega) (by omega)
        refine ⟨r, T4, T4', g1, ?_, g3, g4⟩
        rw [if_pos (by omega)] at g2 ⊢
        exact g2
theorem q_defer {w p q N : Nat} (h : GP v w p q nh nd st V N t t') (x : Int32) : QA (tX9_defer x t) (tX10_defer x t') t t' := by
  have h6 := h.h6
  have b := h.2.2.2.1
  have hb := b.isDay h.2.2.1.1 (x := x)
  have hb' : tX10_isDay x (uI t' 218 0 0) = some (bI (inr x nd)) := hb.2
  have told : ∀ i, i < nd → t'.2.1 236 i = nI (V 7 i) := by
    intro i hi
    obtain ⟨n, m, S, s1, s2, s3, s4, s5, s6, s7⟩ := h.2.2.2.2.1
    rw [← s5 i hi]
    exact s2.2.2.2.1 i hi
  unfold tX9_defer tX10_defer tX10_datesAsTold
  simp only [ob_s, hb.1, bI_0]
  cases hi : inr x nd
  · have e : tX10_defer_L12 4000 x (-1) 0 0 (uI t' 218 0 0) = some (-1, uI t' 218 0 0) := by
      rw [show 4000 = 3999 + 1 from rfl, tX10_defer_L12]
      have c1 : ¬ (12 : Int32) ≤ 0 := by decide
      simp only [tA_e, tA_l, tW0_e, tW0_l, nN_al, nN_la, nN_ad, nN_lm, nN_ml, nN_le, nN_lt, nN_eq, nN_lel, nN_lle, nN_ltl, nN_llt, nN_eql, nN_rm, nN_dv, ob_s, ob_2, ob_3, ite_true, ite_false, not_true_eq_false, not_false_eq_true, ite_self, eq_self, Nat.add_zero, c1, hb', hi, bI_0]
    have mv : MV nh nd st V (uI t' 218 0 0) := b.2.2.2.1
    obtain ⟨T1, d1, d2, d3, d4, d5⟩ := daL nd 0 4000 (uI t' 218 0 0) mv h6 (by omega) (by omega)
    have d1' : tX10_datesAsTold_L2 4000 0 (uI t' 218 0 0) = some T1 := d1
    simp only [tA_e, tA_l, tW0_e, tW0_l, nN_al, nN_la, nN_ad, nN_lm, nN_ml, nN_le, nN_lt, nN_eq, nN_lel, nN_lle, nN_ltl, nN_llt, nN_eql, nN_rm, nN_dv, ob_s, ob_2, ob_3, ite_true, ite_false, not_true_eq_false, not_false_eq_true, ite_self, eq_self, Nat.add_zero, decide_true, decide_false, decide_not, Bool.not_true, Bool.not_false, Bool.true_and, Bool.false_and, Bool.and_true, Bool.and_false, Bool.or_true, Bool.true_or, Bool.or_false, Bool.false_or, if_true, if_false, Bool.false_eq_true, z01_0, z01_1, e, d1']
    refine ⟨_, _, _, rfl, rfl, YQ.rf, fun c k hc => ?_, fun c i h1 h2 h3 h4 => ?_, ?_, ?_⟩
    · rw [d2]
      exact uI_o (by omega)
    · by_cases c9 : c = 236 ∧ i < nd
      · obtain ⟨rfl, c9⟩ := c9
        rw [d4 i (by omega) c9, told i c9]
      · rw [d3 _ _ (by omega)]
        rfl
    · rw [d5]
      rfl
    · rw [d5]
      rfl
  · obtain ⟨d, hd, rfl⟩ := inr_t hi
    obtain ⟨r, T, T', e1, e2, e3, e4⟩ := deL h hd 12 0 4000 4000 0 (-1) 7 0 t (uI t' 218 0 0) (.inl ⟨rfl, rfl, rfl, rfl, rfl⟩) YQ.rf ⟨fun c k hc => uI_o (by omega), fun _ _ _ _ _ _ _ => rfl, rfl⟩ (by omega) (by omega) (by omega)
    rw [if_pos (by omega)] at e2
    rw [show nI 0 = (0 : Int32) from rfl] at e1 e2
    have mv : MV nh nd st V T' := b.2.2.2.1.ag (fun i => e4.2.1 _ _ (by omega) (by omega) (by omega) (by omega) (by omega))
    obtain ⟨T1, d1, d2, d3, d4, d5⟩ := daL nd 0 4000 T' mv h6 (by omega) (by omega)
    have d1' : tX10_datesAsTold_L2 4000 0 T' = some T1 := d1
    simp only [tA_e, tA_l, tW0_e, tW0_l, nN_al, nN_la, nN_ad, nN_lm, nN_ml, nN_le, nN_lt, nN_eq, nN_lel, nN_lle, nN_ltl, nN_llt, nN_eql, nN_rm, nN_dv, ob_s, ob_2, ob_3, ite_true, ite_false, not_true_eq_false, not_false_eq_true, ite_self, eq_self, Nat.add_zero, decide_true, decide_false, decide_not, Bool.not_true, Bool.not_false, Bool.true_and, Bool.false_and, Bool.and_true, Bool.and_false, Bool.or_true, Bool.true_or, Bool.or_false, Bool.false_or, if_true, if_false, Bool.false_eq_true, z01_0, z01_1, Bool.true_eq_false, e1, e2, d1']
    refine ⟨_, _, _, rfl, rfl, e3, fun c k hc => ?_, fun c i h1 h2 h3 h4 => ?_, ?_, ?_⟩
    · rw [d2]
      exact e4.1 _ _ hc
    · by_cases c9 : c = 236 ∧ i < nd
      · obtain ⟨rfl, c9⟩ := c9
        rw [d4 i (by omega) c9, told i c9]
      · rw [d3 _ _ (by omega)]
        exact e4.2.1 _ _ h1 h2 h3 h4 (by omega)
    · rw [d5, e4.2.2]
    · rw [d5, e4.2.2]
end
