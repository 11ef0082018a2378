/-! ===== PURE: chance, rests ===== -/
section
variable {v nh nd st a b n m : Nat} {V : Nat → Nat → Nat} {S : Nat → Nat → Int32} {t0 t0' t t' : tS}
/-- all go -/
def flS (S : Nat → Nat → Int32) : Nat → Nat → Int32 := fun k j => if k = 4 then -1 else if k = 5 then 0 else S k j
theorem flS.sk (h : SK nh nd st S) (hs : 1 ≤ st) : SK nh nd st (flS S) := by
  intro d hd
  obtain ⟨h2, h3, h4, h5⟩ := h d hd
  exact ⟨h2, h3, .inl rfl, 0, hs, rfl⟩
theorem flL (hb : b + 47 ≤ 1081) (h6 : nd ≤ 6) {a1 a2 a3 s v11 v12 : Int32} {v4 v6 v9 : Int64} (hbb : b = 987) : ∀ (k i f : Nat) (T : tS), MV nh nd st V T → i + k = nd → k < f → ∃ T1, tX10_chance_L135 f a1 a2 a3 v4 v6 s v9 v11 v12 1 (nI i) T = some T1 ∧ T1.1 = T.1 ∧ (∀ c j, ¬ (c = 234 ∧ ((b + 6 + i ≤ j ∧ j < b + 6 + nd) ∨ (b + 12 + i ≤ j ∧ j < b + 12 + nd))) → T1.2.1 c j = T.2.1 c j) ∧ T1.2.2 = T.2.2 ∧ (∀ j, i ≤ j → j < nd → T1.2.1 234 (b + 6 + j) = -1) ∧ ∀ j, i ≤ j → j < nd → T1.2.1 234 (b + 12 + j) = 0 := by
  intro k
  induction k with
  | zero =>
    intro i f T h hi hf
    obtain ⟨f, rfl⟩ : ∃ g, f = g + 1 := ⟨f - 1, by omega⟩
    obtain rfl : i = nd := by omega
    rw [tX10_chance_L135]
    simp (disch := omega) only [tA_e, tA_l, tW0_e, tW0_l, nN_al, nN_la, nN_ad, nN_lm, nN_ml, nN_le, nN_lt, nN_eq, nN_lel, nN_lle, nN_ltl, nN_llt, nN_eql, nN_rm, nN_dv, ob_s, ob_2, ob_3, ite_true, ite_false, not_true_eq_false, not_false_eq_true, ite_self, eq_self, Nat.add_zero, h.days, Nat.le_refl]
    exact ⟨_, rfl, rfl, fun _ _ _ => rfl, rfl, fun j _ _ => by omega, fun j _ _ => by omega⟩
  | succ k ih =>
    intro i f T h hi hf
    subst hbb
    obtain ⟨f, rfl⟩ : ∃ g, f = g + 1 := ⟨f - 1, by omega⟩
    have c1 : ¬ nd ≤ i := by omega
    have z : ¬ (1 : Int32) = 0 := by decide
    have h2 : MV nh nd st V (uA (uA T 234 (987 + 6 + i) (-1)) 234 (987 + 12 + i) 0) := h.ag (fun j => by rw [uA_2, if_neg (by omega), uA_2, if_neg (by omega)])
    rw [tX10_chance_L135]
    unfold tX10_leaves
    have l6 : (987 : Int32) + 6 = nI (987 + 6) := (rfl)
    have l12 : (987 : Int32) + 12 = nI (987 + 12) := (rfl)
    simp (disch := omega) only [tA_e, tA_l, tW0_e, tW0_l, nN_al, nN_la, nN_ad, nN_lm, nN_ml, nN_le, nN_lt, nN_eq, nN_lel, nN_lle, nN_ltl, nN_llt, nN_eql, nN_rm, nN_dv, ob_s, ob_2, ob_3, ite_true, ite_false, not_true_eq_false, not_false_eq_true, ite_self, eq_self, Nat.add_zero, h.days, c1, z, l6, l12]
    obtain ⟨T1, e1, e2, e3, e4, e5, e6⟩ := ih (i + 1) f _ h2 (by omega) (by omega)
    refine ⟨T1, e1, e2, ?_, e4, ?_, ?_⟩
    · intro c j hc
      rw [e3 c j (by omega), uA_2, if_neg (by omega), uA_2, if_neg (by omega)]
    · intro j h1 h2
      by_cases c : j = i
      · subst c
        rw [e3 _ _ (by omega), uA_2, if_neg (by omega), uA_2, if_pos ⟨rfl, rfl⟩]
      · exact e5 j (by omega) h2
    · intro j h1 h2
      by_cases c : j = i
      · subst c
        rw [e3 _ _ (by omega), uA_2, if_pos ⟨rfl, rfl⟩]
      · exact e6 j (by omega) h2
theorem PQ.flood (h : PQ v nh nd st V n m S t0 t0' t t') {a1 a2 a3 s v11 v12 : Int32} {v4 v6 v9 : Int64} : ∃ t1 t1', tX6_flood 10 t = some t1 ∧ tX10_chance_L135 4000 a1 a2 a3 v4 v6 s v9 v11 v12 1 0 t' = some t1' ∧ PQ v nh nd st V n m (flS S) t0 t0' t1 t1' := by
  have h6 := h.1.h6
  have h4 := h.1.h4
  obtain ⟨T1, p1, p2, p3, p4, p5⟩ := fi_e (a := 10 + 4) (x := (-1 : Int32)) (N := 6) (t := t) (by omega)
  obtain ⟨T2, q1, q2, q3, q4, q5⟩ := fi_e (a := 10 + 5) (x := (0 : Int32)) (N := 6) (t := T1) (by omega)
  obtain ⟨T', e1, e2, e3, e4, e5, e6⟩ := flL (b := 987) (nh := nh) (nd := nd) (st := st) (V := V) (a1 := a1) (a2 := a2) (a3 := a3) (s := s) (v11 := v11) (v12 := v12) (v4 := v4) (v6 := v6) (v9 := v9) (by omega) h6 rfl nd 0 4000 t' h.1.2.2.2.1 (by omega) (by omega)
  refine ⟨T2, T', ?_, e1, h.1.go ?_ ?_ ?_ ?_, flS.sk h.2.1 h.1.s1.1, ?_⟩
  · unfold tX6_flood
    rw [p1, ob_s, q1]
    rfl
  · refine ⟨fun c k _ => by rw [q2, p2], fun c i h1 h2 => ?_, by rw [q5, p5]⟩
    rw [q3 _ _ (by omega), p3 _ _ (by omega)]
  · refine ⟨fun c k _ => by rw [e2], fun c i h1 h2 h3 => ?_, e4⟩
    rw [e3 _ _ (by omega)]
  · obtain ⟨g1, g2, g3, k1, k2, k3, k4, k5, k6⟩ := h.1.2.2.2.2.2.1
    refine ⟨by rw [q2, p2]; exact g1, by rw [q2, p2]; exact g2, by rw [q2, p2]; exact g3, ?_, ?_, ?_, ?_, ?_, ?_⟩
    · intro j hj
      rw [q3 _ _ (by omega), p3 _ _ (by omega)]
      exact k1 j hj
    · intro j hj
      rw [q3 _ _ (by omega), p3 _ _ (by omega)]
      exact k2 j hj
    · intro j hj
      rw [q3 _ _ (by omega), p3 _ _ (by omega)]
      exact k3 j hj
    · intro j hj
      rw [q3 _ _ (by omega)]
      exact p4 j (by omega)
    · intro j hj
      exact q4 j (by omega)
    · intro j hj
      rw [q3 _ _ (by omega), p3 _ _ (by omega)]
      exact k6 j hj
  · obtain ⟨g1, g2, k1, k2, k3, k4, k5, k6⟩ := h.1.2.2.2.2.2.2.1
    refine ⟨by rw [e3 _ _ (by omega)]; exact g1, by rw [e3 _ _ (by omega)]; exact g2, ?_, ?_, ?_, ?_, ?_, ?_⟩
    · intro j hj
      rw [e3 _ _ (by omega)]
      exact k1 j hj
    · intro j hj
      rw [e3 _ _ (by omega)]
      exact k2 j hj
    · intro j hj
      rw [e3 _ _ (by omega)]
      exact k3 j hj
    · intro j hj
      exact e5 j (by omega) hj
    · intro j hj
      exact e6 j (by omega) hj
    · intro j hj
      rw [e3 _ _ (by omega)]
      exact k6 j hj
  · rw [q5, p5]
    exact h.2.2
/-- the odds of a date -/
def fac (s o n : Nat) : Nat := if s.testBit n then o else 10 - o
def prt (s o : Nat) : Nat → Nat
  | 0 => 1
  | n + 1 => prt s o n * fac s o n
theorem prt_le {s o : Nat} (ho : o ≤ 10) : ∀ n, prt s o n ≤ 10 ^ n := by
  intro n
  induction n with
  | zero => exact Nat.le_refl _
  | succ n ih =>
    unfold prt
    rw [Nat.pow_succ]
    apply Nat.mul_le_mul ih
    unfold fac
    split <;> omega
def wgt (s o K i : Nat) : Nat := prt s o (min i K) * 10 ^ (i - K)
theorem wgt_le {s o K i : Nat} (ho : o ≤ 10) (hi : i ≤ 6) : wgt s o K i ≤ 1000000 := by
  unfold wgt
  have h1 := prt_le (s := s) ho (min i K)
  have h2 : prt s o (min i K) * 10 ^ (i - K) ≤ 10 ^ (min i K) * 10 ^ (i - K) := Nat.mul_le_mul_right _ h1
  rw [← Nat.pow_add] at h2
  have h3 : 10 ^ (min i K + (i - K)) ≤ 10 ^ 6 := Nat.pow_le_pow_right (by decide) (by omega)
  omega
theorem wgL {s o K : Nat} (hs : s < 64) (ho : o ≤ 10) (hK : K ≤ 6) : ∀ (k i f : Nat), i + k = 6 → k < f → tX9_weightOf_L5 f (nI s) (nI K) (nI o) (nI (wgt s o K i)) (nI i) t = some (nI (wgt s o K 6)) := by
  intro k
  induction k with
  | zero =>
    intro i f hi hf
    obtain ⟨f, rfl⟩ : ∃ g, f = g + 1 := ⟨f - 1, by omega⟩
    obtain rfl : i = 6 := by omega
    rw [tX9_weightOf_L5]
    simp (disch := omega) only [tA_e, tA_l, tW0_e, tW0_l, nN_al, nN_la, nN_ad, nN_lm, nN_ml, nN_le, nN_lt, nN_eq, nN_lel, nN_lle, nN_ltl, nN_llt, nN_eql, nN_rm, nN_dv, ob_s, ob_2, ob_3, ite_true, ite_false, not_true_eq_false, not_false_eq_true, ite_self, eq_self, Nat.add_zero, Nat.le_refl]
  | succ k ih =>
    intro i f hi hf
    obtain ⟨f, rfl⟩ : ∃ g, f = g + 1 := ⟨f - 1, by omega⟩
    have c1 : ¬ 6 ≤ i := by omega
    have ih := ih (i + 1) f (by omega) (by omega)
    rw [tX9_weightOf_L5]
    simp (disch := omega) only [nN_lle, nN_lt, nN_al, c1, ite_false, has_e, ob_s, bI_0]
    by_cases c : i < K
    · have e : wgt s o K (i + 1) = wgt s o K i * fac s o i := by
        unfold wgt
        rw [show min (i + 1) K = i + 1 from by omega, show min i K = i from by omega, show i + 1 - K = 0 from by omega, show i - K = 0 from by omega, prt]
        simp
      rw [e] at ih
      unfold fac at ih
      cases hb : s.testBit i
      · rw [hb] at ih
        have e2 : (10 : Int32) - nI o = nI (10 - o) := by
          rw [show (10 : Int32) = nI 10 from rfl, nN_su ho]
        simp only [eq_true c, ite_true, ob_s, e2, nN_mu]
        exact ih
      · rw [hb] at ih
        simp only [eq_true c, ite_true, Bool.true_eq_false, ite_false, ob_s, nN_mu]
        exact ih
    · have e : wgt s o K (i + 1) = wgt s o K i * 10 := by
        unfold wgt
        rw [show min (i + 1) K = K from by omega, show min i K = K from by omega, show i + 1 - K = (i - K) + 1 from by omega, Nat.pow_succ, Nat.mul_assoc]
      rw [e] at ih
      simp only [c, ite_false, ob_s, nN_ml]
      exact ih
theorem wg_e {s o K : Nat} (hs : s < 64) (ho : o ≤ 10) (hK : K ≤ 6) : tX9_weightOf (nI s) (nI K) (nI o) t = some (nI (prt s o K * 10 ^ (6 - K))) := by
  have := wgL (t := t) hs ho hK 6 0 4000 (by omega) (by omega)
  rw [show wgt s o K 0 = 1 from by unfold wgt; rw [show min 0 K = 0 from by omega, show 0 - K = 0 from by omega]; rfl, show nI 0 = (0 : Int32) from rfl, show nI 1 = (1 : Int32) from rfl] at this
  unfold tX9_weightOf
  rw [this, ob_s]
  unfold wgt
  rw [show min 6 K = K from by omega]
theorem fac_le {s o n : Nat} (ho : o ≤ 10) : fac s o n ≤ 10 := by
  unfold fac
  split <;> omega
/-- the reference goes on alone -/
theorem PQ.tuM {s o K : Nat} {a1 : Int32} {v4 v6 : Int64} (hs : s < 64) (ho : o ≤ 10) (hK : K ≤ 6) : ∀ (k i f' u n m : Nat) (S : Nat → Nat → Int32) (t t' : tS), PQ v nh nd st V n m S t0 t0' t t' → u < 2 ^ nd → n + k < 900000 → i + k = K → k < f' → ∃ u1 t1', tX10_chance_L88 f' a1 (nI K) (nI o) v4 v6 (nI s) (nL (prt s o i)) (nI u) (nI i) t' = some (nL (prt s o K), nI u1, t1') ∧ MF 987 t0' t1' ∧ u1 < 2 ^ nd ∧ ∀ j, u.testBit j = true → u1.testBit j = true := by
  intro k
  induction k with
  | zero =>
    intro i f' u n m S t t' h hu hn hi hf'
    obtain ⟨f', rfl⟩ : ∃ g, f' = g + 1 := ⟨f' - 1, by omega⟩
    obtain rfl : i = K := by omega
    rw [tX10_chance_L88]
    simp (disch := omega) only [tA_e, tA_l, tW0_e, tW0_l, nN_al, nN_la, nN_ad, nN_lm, nN_ml, nN_le, nN_lt, nN_eq, nN_lel, nN_lle, nN_ltl, nN_llt, nN_eql, nN_rm, nN_dv, ob_s, ob_2, ob_3, ite_true, ite_false, not_true_eq_false, not_false_eq_true, ite_self, eq_self, Nat.add_zero, Nat.le_refl]
    exact ⟨u, _, rfl, h.fr.2, hu, fun _ => id⟩
  | succ k ih =>
    intro i f' u n m S t t' h hu hn hi hf'
    obtain ⟨f', rfl⟩ : ∃ g, f' = g + 1 := ⟨f' - 1, by omega⟩
    have c1 : ¬ K ≤ i := by omega
    have e10 : (10 : Int32) - nI o = nI (10 - o) := by
      rw [show (10 : Int32) = nI 10 from rfl, nN_su ho]
    have fin : ∀ (S : Nat → Nat → Int32) (T T' : tS), PQ v nh nd st V n m S t0 t0' T T' → ∃ u1 t1', ((tX10_passes 987 T').bind fun tt43 => tX10_chance_L88 f' a1 (nI K) (nI o) v4 v6 (nI s) (nL (prt s o (i + 1))) (nI u ||| (tt43.1 218 29)) (nI (i + 1)) tt43) = some (nL (prt s o K), nI u1, t1') ∧ MF 987 t0' t1' ∧ u1 < 2 ^ nd ∧ ∀ j, u.testBit j = true → u1.testBit j = true := by
      intro S T T' H
      obtain ⟨S1, c2, o1, t1, t1', e1, e2, e3, e4, ⟨k1, k2, k3, k4⟩, e6, e7, e8, e9⟩ := H.pass (by omega)
      rw [e2, ob_s, k4, nN_or]
      obtain ⟨u1, t2', a1, a2, a3, a4⟩ := ih (i + 1) f' (u ||| o1) _ _ _ _ _ e3 (or_lt hu e9) (by omega) (by omega) (by omega)
      exact ⟨u1, t2', a1, a2, a3, fun j hj => a4 j (by rw [Nat.testBit_or, hj, Bool.true_or])⟩
    have z : ¬ (1 : Int32) = 0 := by decide
    have m1 : nL (prt s o i) * nL (fac s o i) = nL (prt s o (i + 1)) := by rw [nL_mu]; rfl
    unfold fac at m1
    rw [tX10_chance_L88]
    simp (disch := omega) only [nN_le, nN_al, nN_bit, tb_1, c1, ite_false, e10, nI_64]
    cases hb : s.testBit i
    · rw [hb] at m1
      have e135 : ∀ (v9 : Int64) (v11 v12 : Int32), tX10_chance_L135 4000 a1 (nI K) (nI o) v4 v6 (nI s) v9 v11 v12 0 0 t' = some t' := by
        intro v9 v11 v12
        have h6 := h.1.h6
        rw [show 4000 = 3999 + 1 from rfl, tX10_chance_L135, h.1.days, ob_s]
        by_cases c : nI nd ≤ 0
        · rw [if_pos c]
        · rw [if_neg c, if_pos rfl]
      simp only [not_false_eq_true, Bool.false_eq_true, ite_true, ob_s, e135]
      simp only [Bool.false_eq_true, ite_false] at m1
      rw [m1]
      exact fin S t t' h
    · rw [hb] at m1
      obtain ⟨T, T', q1, q2, q3⟩ := h.flood (a1 := a1) (a2 := nI K) (a3 := nI o) (s := nI s) (v11 := nI u) (v12 := nI i) (v4 := v4) (v6 := v6) (v9 := nL (prt s o (i + 1)))
      simp only [ite_true] at m1
      simp only [not_true_eq_false, ite_false, z, ob_s, m1, q2]
      exact fin _ _ _ q3
theorem PQ.tuL {s o K d : Nat} {v4 v6 : Int64} (hs : s < 64) (ho : o ≤ 10) (hK : K ≤ 6) (hd : d < nd) : ∀ (k i f f' u n m : Nat) (S : Nat → Nat → Int32) (t t' : tS), PQ v nh nd st V n m S t0 t0' t t' → u < 2 ^ nd → u.testBit d = false → n + k < 900000 → i + k = K → k < f → k < f' → ∃ (c : Bool) (u1 : Nat) (t1 t1' : tS), tX9_isTurnedOffBy_L14 f (nI s) (nI d) (nI K) (nI i) t = some (if c = true then .inr (1, t1) else .inl t1) ∧ tX10_chance_L88 f' (nI d) (nI K) (nI o) v4 v6 (nI s) (nL (prt s o i)) (nI u) (nI i) t' = some (nL (prt s o K), nI u1, t1') ∧ CF 10 v t0 t1 ∧ MF 987 t0' t1' ∧ u1 < 2 ^ nd ∧ u1.testBit d = c := by
  intro k
  induction k with
  | zero =>
    intro i f f' u n m S t t' h hu hud hn hi hf hf'
    obtain ⟨f, rfl⟩ : ∃ g, f = g + 1 := ⟨f - 1, by omega⟩
    obtain ⟨f', rfl⟩ : ∃ g, f' = g + 1 := ⟨f' - 1, by omega⟩
    obtain rfl : i = K := by omega
    rw [tX9_isTurnedOffBy_L14, tX10_chance_L88]
    simp (disch := omega) only [tA_e, tA_l, tW0_e, tW0_l, nN_al, nN_la, nN_ad, nN_lm, nN_ml, nN_le, nN_lt, nN_eq, nN_lel, nN_lle, nN_ltl, nN_llt, nN_eql, nN_rm, nN_dv, ob_s, ob_2, ob_3, ite_true, ite_false, not_true_eq_false, not_false_eq_true, ite_self, eq_self, Nat.add_zero, Nat.le_refl]
    exact ⟨false, u, _, _, rfl, rfl, h.fr.1, h.fr.2, hu, hud⟩
  | succ k ih =>
    intro i f f' u n m S t t' h hu hud hn hi hf hf'
    have h6 := h.1.h6
    obtain ⟨f, rfl⟩ : ∃ g, f = g + 1 := ⟨f - 1, by omega⟩
    obtain ⟨f', rfl⟩ : ∃ g, f' = g + 1 := ⟨f' - 1, by omega⟩
    have c1 : ¬ K ≤ i := by omega
    have e10 : (10 : Int32) - nI o = nI (10 - o) := by
      rw [show (10 : Int32) = nI 10 from rfl, nN_su ho]
    have fin : ∀ (S : Nat → Nat → Int32) (T T' : tS), PQ v nh nd st V n m S t0 t0' T T' → ∃ (c : Bool) (u1 : Nat) (t1 t1' : tS), ((tX6_passDate 10 (T.2.2.2.2 0 9) T).bind fun tt23 => (tX9_has (tt23.1 10 10) (nI d) tt23).bind fun x27 => if x27 = 0 then tX9_isTurnedOffBy_L14 f (nI s) (nI d) (nI K) (nI (i + 1)) tt23 else some (.inr ((1 : Int32), tt23))) = some (if c = true then .inr (1, t1) else .inl t1) ∧ ((tX10_passes 987 T').bind fun tt43 => tX10_chance_L88 f' (nI d) (nI K) (nI o) v4 v6 (nI s) (nL (prt s o (i + 1))) (nI u ||| (tt43.1 218 29)) (nI (i + 1)) tt43) = some (nL (prt s o K), nI u1, t1') ∧ CF 10 v t0 t1 ∧ MF 987 t0' t1' ∧ u1 < 2 ^ nd ∧ u1.testBit d = c := by
      intro S T T' H
      obtain ⟨S1, c2, o1, t1, t1', e1, e2, e3, e4, ⟨k1, k2, k3, k4⟩, e6, e7, e8, e9⟩ := H.pass (by omega)
      rw [e1, e2, ob_s, ob_s, k2, k4, nN_or, has_e (by omega) (by omega), ob_s]
      cases hb : o1.testBit d
      · have hz : (u ||| o1).testBit d = false := by rw [Nat.testBit_or, hud, hb]; rfl
        obtain ⟨c, u1, t2, t2', a1, a2, a3⟩ := ih (i + 1) f f' (u ||| o1) _ _ _ _ _ e3 (or_lt hu e9) hz (by omega) (by omega) (by omega) (by omega)
        rw [if_pos (by decide)]
        exact ⟨c, u1, t2, t2', a1, a2, a3⟩
      · obtain ⟨u1, t2', a1, a2, a3, a4⟩ := PQ.tuM (a1 := nI d) (v4 := v4) (v6 := v6) hs ho hK k (i + 1) f' (u ||| o1) _ _ _ _ _ e3 (or_lt hu e9) (by omega) (by omega) (by omega)
        rw [if_neg (by decide)]
        exact ⟨true, u1, t1, t2', rfl, a1, e3.fr.1, a2, a3, a4 d (by rw [Nat.testBit_or, hb, Bool.or_true])⟩
    have z : ¬ (1 : Int32) = 0 := by decide
    have m1 : nL (prt s o i) * nL (fac s o i) = nL (prt s o (i + 1)) := by rw [nL_mu]; rfl
    unfold fac at m1
    rw [tX9_isTurnedOffBy_L14, tX10_chance_L88]
    simp (disch := omega) only [nN_le, nN_al, nN_bit, tb_1, has_e, bI_0, ob_s, c1, ite_false, e10, nI_64]
    cases hb : s.testBit i
    · rw [hb] at m1
      have e135 : ∀ (v9 : Int64) (v11 v12 : Int32), tX10_chance_L135 4000 (nI d) (nI K) (nI o) v4 v6 (nI s) v9 v11 v12 0 0 t' = some t' := by
        intro v9 v11 v12
        rw [show 4000 = 3999 + 1 from rfl, tX10_chance_L135, h.1.days, ob_s]
        by_cases c : nI nd ≤ 0
        · rw [if_pos c]
        · rw [if_neg c, if_pos rfl]
      simp only [not_false_eq_true, Bool.false_eq_true, ite_true, ob_s, e135]
      simp only [Bool.false_eq_true, ite_false] at m1
      rw [m1]
      exact fin S t t' h
    · rw [hb] at m1
      obtain ⟨T, T', q1, q2, q3⟩ := h.flood (a1 := nI d) (a2 := nI K) (a3 := nI o) (s := nI s) (v11 := nI u) (v12 := nI i) (v4 := v4) (v6 := v6) (v9 := nL (prt s o (i + 1)))
      simp only [ite_true] at m1
      simp only [not_true_eq_false, ite_false, Bool.true_eq_false, z, ob_s, m1, q1, q2]
      exact fin _ _ _ q3
theorem chL {w p q N d o K : Nat} {lw : Int64} (h : GP v w p q nh nd st V N t t') (hd : d < nd) (ho : o ≤ 10) (hK : K ≤ 6) : ∀ (k s f f' ac : Nat) (T T' : tS), YQ t T → ZQ t' T' → s + k = 2 ^ K → ac ≤ s * 10 ^ K → k < f → k < f' → ∃ a1 T1 T1', a1 ≤ 2 ^ K * 10 ^ K ∧ tX9_chance_L36 f (nI d) (nI K) (nI o) (nI (ac * 10 ^ (6 - K))) (nI s) T = some (nI (a1 * 10 ^ (6 - K)), T1) ∧ tX10_chance_L67 f' (nI d) (nI K) (nI o) lw (nL ac) (nI s) T' = some (nL a1, T1') ∧ YQ t T1 ∧ ZQ t' T1' := by
  have hv := h.qr.1
  have h6 := h.h6
  have p64 : 2 ^ K ≤ 64 := by rw [show 64 = 2 ^ 6 from rfl]; exact Nat.pow_le_pow_right (by decide) hK
  have t6 : 10 ^ K * 10 ^ (6 - K) = 1000000 := by
    rw [← Nat.pow_add, show K + (6 - K) = 6 from by omega]
  have t0 : 0 < 10 ^ (6 - K) := Nat.pow_pos (by decide)
  intro k
  induction k with
  | zero =>
    intro s f f' ac T T' hy hz hs ha hf hf'
    obtain ⟨f, rfl⟩ : ∃ g, f = g + 1 := ⟨f - 1, by omega⟩
    obtain ⟨f', rfl⟩ : ∃ g, f' = g + 1 := ⟨f' - 1, by omega⟩
    obtain rfl : s = 2 ^ K := by omega
    rw [tX9_chance_L36, tX10_chance_L67]
    simp (disch := omega) only [tA_e, tA_l, tW0_e, tW0_l, nN_al, nN_la, nN_ad, nN_lm, nN_ml, nN_le, nN_lt, nN_eq, nN_lel, nN_lle, nN_ltl, nN_llt, nN_eql, nN_rm, nN_dv, ob_s, ob_2, ob_3, ite_true, ite_false, not_true_eq_false, not_false_eq_true, ite_self, eq_self, Nat.add_zero, nN_shl, Nat.le_refl]
    exact ⟨ac, _, _, ha, rfl, rfl, hy, hz⟩
  | succ k ih =>
    intro s f f' ac T T' hy hz hs ha hf hf'
    obtain ⟨f, rfl⟩ : ∃ g, f = g + 1 := ⟨f - 1, by omega⟩
    obtain ⟨f', rfl⟩ : ∃ g, f' = g + 1 := ⟨f' - 1, by omega⟩
    have c1 : ¬ 2 ^ K ≤ s := by omega
    obtain ⟨n, m, S, t1, t1', e1, e2, e3, e4, e5, e6, e7, e8, e9⟩ := (h.q hy hz).qr.try0
    obtain ⟨c, u1, t2, t2', a1, a2, a3, a4, a5, a6⟩ := PQ.tuL (v4 := lw) (v6 := nL ac) (s := s) (by omega) ho hK hd K 0 4000 4000 0 n m S t1 t1' e3 (Nat.two_pow_pos _) (Nat.zero_testBit _) (by omega) (by omega) (by omega) (by omega)
    have hu : u1 < 2147483648 := Nat.lt_of_lt_of_le a5 (Nat.le_trans (Nat.pow_le_pow_right (by decide) h6) (by decide))
    have hw := wg_e (t := T) (s := s) (o := o) (K := K) (by omega) ho hK
    have hp := prt_le (s := s) ho K
    have hp2 : prt s o K * 10 ^ (6 - K) ≤ 1000000 := by
      rw [← t6]
      exact Nat.mul_le_mul_right _ hp
    have a1' : tX9_isTurnedOffBy_L14 4000 (nI s) (nI d) (nI K) 0 t1 = some (if c = true then .inr (1, t2) else .inl t2) := a1
    have a2' : tX10_chance_L88 4000 (nI d) (nI K) (nI o) lw (nL ac) (nI s) 1 0 0 t1' = some (nL (prt s o K), nI u1, t2') := a2
    have hy2 : YQ t t2 := hy.tr (a3.yq hv)
    have hz2 : ZQ t' t2' := hz.tr (a4.zq (by decide))
    have hpl : ac + prt s o K ≤ (s + 1) * 10 ^ K := by rw [Nat.add_mul, Nat.one_mul]; omega
    have hpl0 : ac ≤ (s + 1) * 10 ^ K := by rw [Nat.add_mul, Nat.one_mul]; omega
    rw [tX9_chance_L36, tX10_chance_L67]
    simp (disch := omega) only [nN_shl, nN_le, nN_al, c1, ite_false, hw, e2, ob_s, ob_3, a2', nN_bit, tb_1, a6, nN_lel]
    by_cases c0 : prt s o K * 10 ^ (6 - K) ≤ 0
    · have cz : prt s o K = 0 := by
        rcases Nat.mul_eq_zero.1 (Nat.le_zero.1 c0) with e | e
        · exact e
        · omega
      simp only [eq_true c0, ite_true, ob_2]
      rw [cz]
      have n0 : nL ac + (0 : Int64) = nL ac := Int64.add_zero _
      have n1 : nL ac + nL 0 = nL ac := Int64.add_zero _
      have I := ih (s + 1) f f' ac T t2' hy hz2 (by omega) hpl0 (by omega) (by omega)
      cases c
      · simp only [Bool.false_eq_true, not_false_eq_true, ite_true, ob_s, n0]
        exact I
      · simp only [not_true_eq_false, ite_false, ob_s, n1]
        exact I
    · unfold tX9_isTurnedOffBy
      simp only [c0, ite_false, e1, ob_s, a1']
      cases c
      · have n0 : nL ac + (0 : Int64) = nL ac := Int64.add_zero _
        simp only [Bool.false_eq_true, not_false_eq_true, ite_true, ite_false, ob_s, ob_2, n0]
        exact ih (s + 1) f f' ac t2 t2' hy2 hz2 (by omega) hpl0 (by omega) (by omega)
      · have z : ¬ (1 : Int32) = 0 := by decide
        have I := ih (s + 1) f f' (ac + prt s o K) t2 t2' hy2 hz2 (by omega) hpl (by omega) (by omega)
        rw [Nat.add_mul, ← nN_ad, ← nL_ad] at I
        simp only [not_true_eq_false, ite_false, ite_true, ob_s, ob_2, z]
        exact I
theorem allL {K : Nat} (hK : K ≤ 6) {a1 a3 : Int32} {v6 : Int64} : ∀ (k i f : Nat), i + k = K → k < f → tX10_chance_L44 f a1 (nI K) a3 (nL (10 ^ i)) v6 (nI i) t = some (nL (10 ^ K)) := by
  intro k
  induction k with
  | zero =>
    intro i f hi hf
    obtain ⟨f, rfl⟩ : ∃ g, f = g + 1 := ⟨f - 1, by omega⟩
    obtain rfl : i = K := by omega
    rw [tX10_chance_L44]
    simp (disch := omega) only [tA_e, tA_l, tW0_e, tW0_l, nN_al, nN_la, nN_ad, nN_lm, nN_ml, nN_le, nN_lt, nN_eq, nN_lel, nN_lle, nN_ltl, nN_llt, nN_eql, nN_rm, nN_dv, ob_s, ob_2, ob_3, ite_true, ite_false, not_true_eq_false, not_false_eq_true, ite_self, eq_self, Nat.add_zero, Nat.le_refl]
  | succ k ih =>
    intro i f hi hf
    obtain ⟨f, rfl⟩ : ∃ g, f = g + 1 := ⟨f - 1, by omega⟩
    have c1 : ¬ K ≤ i := by omega
    rw [tX10_chance_L44]
    simp (disch := omega) only [tA_e, tA_l, tW0_e, tW0_l, nN_al, nN_la, nN_ad, nN_lm, nN_ml, nN_le, nN_lt, nN_eq, nN_lel, nN_lle, nN_ltl, nN_llt, nN_eql, nN_rm, nN_dv, ob_s, ob_2, ob_3, ite_true, ite_false, not_true_eq_false, not_false_eq_true, ite_self, eq_self, Nat.add_zero, c1]
    have I := ih (i + 1) f (by omega) (by omega)
    rw [Nat.pow_succ, ← nL_mu] at I
    exact I
theorem q_chance {w p q N : Nat} (h : GP v w p q nh nd st V N t t') (x y z : Int32) : QA (tX9_chance x y z t) (tX10_chance x y z t') t t' := by
  have h4 := h.h4
  have h6 := h.h6
  have hb := h.2.2.2.1.isDay h.2.2.1.1 (x := x)
  have hb' : tX10_isDay x (uI t' 218 0 0) = some (bI (inr x nd)) := hb.2
  unfold tX9_chance tX10_chance
  simp only [ob_s, hb.1, hb', wi_e.1, wi_e.2, bI_0]
  cases hx : inr x nd
  · simp only [tA_e, tA_l, tW0_e, tW0_l, nN_al, nN_la, nN_ad, nN_lm, nN_ml, nN_le, nN_lt, nN_eq, nN_lel, nN_lle, nN_ltl, nN_llt, nN_eql, nN_rm, nN_dv, ob_s, ob_2, ob_3, ite_true, ite_false, not_true_eq_false, not_false_eq_true, ite_self, eq_self, Nat.add_zero, decide_true, decide_false, decide_not, Bool.not_true, Bool.not_false, Bool.true_and, Bool.false_and, Bool.and_true, Bool.and_false, Bool.or_true, Bool.true_or, Bool.or_false, Bool.false_or, if_true, if_false, Bool.false_eq_true, z01_0, z01_1]
    exact QA.no
  · cases hy : decide ((1 : Int32) ≤ y ∧ y ≤ 6)
    · simp only [tA_e, tA_l, tW0_e, tW0_l, nN_al, nN_la, nN_ad, nN_lm, nN_ml, nN_le, nN_lt, nN_eq, nN_lel, nN_lle, nN_ltl, nN_llt, nN_eql, nN_rm, nN_dv, ob_s, ob_2, ob_3, ite_true, ite_false, not_true_eq_false, not_false_eq_true, ite_self, eq_self, Nat.add_zero, decide_true, decide_false, decide_not, Bool.not_true, Bool.not_false, Bool.true_and, Bool.false_and, Bool.and_true, Bool.and_false, Bool.or_true, Bool.true_or, Bool.or_false, Bool.false_or, if_true, if_false, Bool.false_eq_true, z01_0, z01_1, Bool.true_eq_false]
      exact QA.no
    · cases hz : decide ((0 : Int32) ≤ z ∧ z ≤ 10)
      · simp only [tA_e, tA_l, tW0_e, tW0_l, nN_al, nN_la, nN_ad, nN_lm, nN_ml, nN_le, nN_lt, nN_eq, nN_lel, nN_lle, nN_ltl, nN_llt, nN_eql, nN_rm, nN_dv, ob_s, ob_2, ob_3, ite_true, ite_false, not_true_eq_false, not_false_eq_true, ite_self, eq_self, Nat.add_zero, decide_true, decide_false, decide_not, Bool.not_true, Bool.not_false, Bool.true_and, Bool.false_and, Bool.and_true, Bool.and_false, Bool.or_true, Bool.true_or, Bool.or_false, Bool.false_or, if_true, if_false, Bool.false_eq_true, z01_0, z01_1, Bool.true_eq_false]
        exact QA.no
      · obtain ⟨d, hd, rfl⟩ := inr_t hx
        obtain ⟨K, _, hK, rfl⟩ := wi_n (lo := 1) (hi := 6) (by decide) (by decide) hy
        obtain ⟨o, _, ho, rfl⟩ := wi_n (lo := 0) (hi := 10) (by decide) (by decide) hz
        have p64 : 2 ^ K ≤ 64 := by rw [show 64 = 2 ^ 6 from rfl]; exact Nat.pow_le_pow_right (by decide) hK
        have t6 : 10 ^ K * 10 ^ (6 - K) = 1000000 := by
          rw [← Nat.pow_add, show K + (6 - K) = 6 from by omega]
        have tK : 10 ^ K ≤ 1000000 := by
          have : 10 ^ K ≤ 10 ^ 6 := Nat.pow_le_pow_right (by decide) hK
          omega
        have tp : 0 < 10 ^ K := Nat.pow_pos (by decide)
        obtain ⟨a1, T, T', a2, e1, e2, e3, e4⟩ := chL (lw := nL (10 ^ K)) h hd ho hK (2 ^ K) 0 4000 4000 0 t (uI t' 218 0 0) YQ.rf (ZQ.th (.inl rfl)) (by omega) (by omega) (by omega) (by omega)
        have al := allL (t := uI t' 218 0 0) hK (a1 := nI d) (a3 := nI o) (v6 := 0) K 0 4000 (by omega) (by omega)
        have al' : tX10_chance_L44 4000 (nI d) (nI K) (nI o) 1 0 0 (uI t' 218 0 0) = some (nL (10 ^ K)) := al
        rw [Nat.zero_mul] at e1
        have e1' : tX9_chance_L36 4000 (nI d) (nI K) (nI o) 0 0 t = some (nI (a1 * 10 ^ (6 - K)), T) := e1
        have e2' : tX10_chance_L67 4000 (nI d) (nI K) (nI o) (nL (10 ^ K)) 0 0 (uI t' 218 0 0) = some (nL a1, T') := e2
        have hb1 : 2 ^ K * 10 ^ K ≤ 64 * 1000000 := Nat.mul_le_mul p64 tK
        have dv : am_dvL (nL a1 * (1000000 : Int64)) (nL (10 ^ K)) = some (nL (a1 * 10 ^ (6 - K))) := by
          rw [show (1000000 : Int64) = nL 1000000 from rfl, nL_mu, nL_dv (by omega) (by omega) tp]
          congr 2
          rw [← t6, ← Nat.mul_assoc, Nat.mul_comm a1, Nat.mul_assoc, Nat.mul_div_cancel_left _ tp]
        simp only [tA_e, tA_l, tW0_e, tW0_l, nN_al, nN_la, nN_ad, nN_lm, nN_ml, nN_le, nN_lt, nN_eq, nN_lel, nN_lle, nN_ltl, nN_llt, nN_eql, nN_rm, nN_dv, ob_s, ob_2, ob_3, ite_true, ite_false, not_true_eq_false, not_false_eq_true, ite_self, eq_self, Nat.add_zero, decide_true, decide_false, decide_not, Bool.not_true, Bool.not_false, Bool.true_and, Bool.false_and, Bool.and_true, Bool.and_false, Bool.or_true, Bool.true_or, Bool.or_false, Bool.false_or, if_true, if_false, Bool.false_eq_true, z01_0, z01_1, Bool.true_eq_false, al', e1', e2', dv, nL_32]
        exact ⟨_, _, _, rfl, rfl, e3, e4⟩
end
