/-! ===== PURE: mark, count ===== -/
section
variable {v nh nd st a b n m : Nat} {V : Nat → Nat → Nat} {S : Nat → Nat → Int32} {t0 t0' t t' : tS}
theorem cp5_e {a2 : Nat} (hd : a + 3 ≤ a2 ∨ a2 + 3 ≤ a) : ∃ t1, tX5_copyFrom a2 a t = some t1 ∧ t1.1 a2 2 = t.1 a 2 ∧ (∀ i, i < 8 → t1.2.1 (a2 + 1) i = t.2.1 (a + 1) i) ∧ (∀ i, i < 8 → t1.2.1 (a2 + 2) i = t.2.1 (a + 2) i) ∧ (∀ b k, b ≠ a2 → t1.1 b k = t.1 b k) ∧ (∀ b i, b ≠ a2 + 1 → b ≠ a2 + 2 → t1.2.1 b i = t.2.1 b i) ∧ t1.2.2 = t.2.2 := by
  unfold tX5_copyFrom
  simp only [tWC_8, ob_s]
  refine ⟨_, rfl, ?_, ?_, ?_, ?_, ?_, ?_⟩
  · rw [uI_s]
    rfl
  · intro i hi
    simp (disch := omega) only [uI_2, uF_s, uF_n, cpy_l]
  · intro i hi
    simp (disch := omega) only [uI_2, uF_s, uF_n, cpy_l]
  · intro b k hb
    rw [uI_o (by omega)]
    rfl
  · intro b i h1 h2
    simp (disch := omega) only [uI_2, uF_n]
  · rfl
theorem nar_31 : am_nar 3 1 = 1 := by decide
theorem mark_lay {w p q N m : Nat} (h : GP v w p q nh nd st V N t t') (hN : N + 1 ≤ 1000) (hm : m < 4) : ∃ t1 t1', tX2_lay (132 + 11 * m) 3 176 t = some t1 ∧ tX10_copies 0 (nI (47 * (1 + m))) 47 (uA (uI t' 218 0 0) 235 m 1) = some t1' ∧ GP v w p q nh nd st V (N + 1) t1 (uI t1' 218 25 (t1'.1 218 25)) := by
  have h4 := h.h4
  have h6 := h.h6
  have h0 := h
  obtain ⟨k1, k2, k3, k4, k5, k6, k7, k8, k9⟩ := h
  obtain ⟨T1, a1, a2, a3⟩ := cp_e (a := 3) (a2 := 132 + 11 * m + 1) (t := t) (by omega)
  obtain ⟨T2, b1, b2, b3, b4, b5, b6, b7⟩ := cp5_e (a := 176) (a2 := 132 + 11 * m + 8) (t := T1) (by omega)
  obtain ⟨t1', c1, c2, c3⟩ := copies_e (p := 0) (q := 47 * (1 + m)) (N := 47) (t := uA (uI t' 218 0 0) 235 m 1) (by omega) (by omega) (by omega)
  refine ⟨uI T2 (132 + 11 * m) 2 1, t1', ?_, c1, ?_⟩
  · unfold tX2_lay
    simp only [a1, b1, ob_s]
  have ya : ∀ b k, ¬ (132 + 11 * m ≤ b ∧ b ≤ 142 + 11 * m) → (uI T2 (132 + 11 * m) 2 1).1 b k = t.1 b k := by
    intro b k hb
    rw [uI_o (by omega), b5 _ _ (by omega), a2.1 _ _ (by omega)]
  have yb : ∀ b k, ¬ (132 + 11 * m ≤ b ∧ b ≤ 142 + 11 * m) → (uI T2 (132 + 11 * m) 2 1).2.1 b k = t.2.1 b k := by
    intro b k hb
    show T2.2.1 b k = _
    rw [b6 _ _ (by omega) (by omega), a2.2.1 _ _ (by omega)]
  have y2 : (uI T2 (132 + 11 * m) 2 1).2.2 = t.2.2 := by
    show T2.2.2 = _
    rw [b7, a2.2.2]
  have za : ∀ c k, ¬ (c = 218 ∧ k = 0) → (uI t1' 218 25 (t1'.1 218 25)).1 c k = t'.1 c k := by
    intro c k hc
    have e : ∀ c k, ¬ (c = 218 ∧ k = 0) → t1'.1 c k = t'.1 c k := by
      intro c k hc
      rw [c2.1]
      exact uI_o hc
    by_cases c9 : c = 218 ∧ k = 25
    · rw [c9.1, c9.2, uI_s]
      exact e _ _ (by omega)
    · rw [uI_o c9]
      exact e _ _ hc
  have zb : ∀ c i, ¬ (c = 235 ∧ i = m) → ¬ (c = 234 ∧ 47 * (1 + m) ≤ i ∧ i < 47 * (1 + m) + 47) → (uI t1' 218 25 (t1'.1 218 25)).2.1 c i = t'.2.1 c i := by
    intro c i h1 h2
    show t1'.2.1 c i = _
    rw [c2.2.1 _ _ h2, uA_2, if_neg h1]
    rfl
  have zc : ∀ j, j < 47 → (uI t1' 218 25 (t1'.1 218 25)).2.1 234 (47 * (1 + m) + j) = t'.2.1 234 j := by
    intro j hj
    show t1'.2.1 234 _ = _
    rw [c3 j hj, uA_2, if_neg (by omega), Nat.zero_add]
    rfl
  have z2 : (uI t1' 218 25 (t1'.1 218 25)).2.2 = t'.2.2 := by
    show t1'.2.2 = _
    rw [c2.2.2]
    rfl
  have z5 : (uI t1' 218 25 (t1'.1 218 25)).2.1 235 m = 1 := by
    show t1'.2.1 235 m = _
    rw [c2.2.1 _ _ (by omega), uA_2, if_pos ⟨rfl, rfl⟩]
  have y5 : (uI T2 (132 + 11 * m) 2 1).1 (132 + 11 * m) 2 = 1 := uI_s
  have hcs : ∀ n m' S, CS nh nd 3 n m' S t → CS nh nd (133 + 11 * m) n m' S (uI T2 (132 + 11 * m) 2 1) := by
    intro n m' S hc
    have g := a3 nh nd n m' S h4 h6 hc
    rw [show 132 + 11 * m + 1 = 133 + 11 * m from by omega] at g
    exact g.ag (by rw [uI_o (by omega), b5 _ _ (by omega)]) (by rw [uI_o (by omega), b5 _ _ (by omega)]) (by rw [uI_o (by omega), b5 _ _ (by omega)]) (fun j i _ _ => b6 _ _ (by omega) (by omega))
  have hse : SE nh (140 + 11 * m) (47 * (1 + m)) (uI T2 (132 + 11 * m) 2 1) (uI t1' 218 25 (t1'.1 218 25)) := by
    rw [show 140 + 11 * m = 132 + 11 * m + 8 from by omega]
    refine k8.ag ?_ ?_ ?_ ?_
    · rw [uI_o (by omega), b2, a2.1 _ _ (by omega)]
    · intro i hi
      show T2.2.1 _ _ = _
      rw [b3 i hi, a2.2.1 _ _ (by omega)]
    · intro i hi
      show T2.2.1 _ _ = _
      rw [b4 i hi, a2.2.1 _ _ (by omega)]
    · intro j h1 h2
      rw [zc j h2, Nat.zero_add]
  generalize (uI T2 (132 + 11 * m) 2 1) = t1 at *
  generalize (uI t1' 218 25 (t1'.1 218 25)) = t2' at *
  have st' : ∀ a b, (a + 7 ≤ 132 + 11 * m ∨ 142 + 11 * m < a) → (b + 30 ≤ 47 * (1 + m) ∨ 47 * (1 + m) + 47 ≤ b) → ST nh nd st V a b N t t' → ST nh nd st V a b (N + 1) t1 t2' := by
    intro a b ha hb hs
    exact hs.to (by omega) (fun n m S hc => hc.ag (ya _ _ (by omega)) (ya _ _ (by omega)) (ya _ _ (by omega)) (fun j i _ _ => yb _ _ (by omega))) (fun n m S hc => hc.copy h4 h6 (fun j hj => zb _ _ (by omega) (by omega)) (fun j => zb _ _ (by omega) (by omega)))
  refine h0.s ⟨fun b j hb => ya _ _ (by omega), fun b i hb => yb _ _ (by omega), y2⟩ ⟨fun c j hc => za _ _ (by omega), fun c i h1 h2 => zb _ _ (by omega) (by omega), z2⟩ (st' _ _ (by omega) (by omega) k5) ?_ ?_ ?_ hN
  · exact k6.to (by omega) (ya _ _ (by omega)) (ya _ _ (by omega)) (za _ _ (by omega)) (fun s r _ _ hs => st' _ _ (by omega) (by omega) hs)
  · intro m' hm'
    by_cases c : m' = m
    · subst c
      exact .inr ⟨y5, z5, k5.to (by omega) hcs (fun n m S hc => hc.copy h4 h6 (fun j hj => by rw [zc j (by omega), Nat.zero_add]) (fun j => zb _ _ (by omega) (by omega))), hse⟩
    · rw [ya _ _ (by omega), zb 235 m' (by omega) (by omega)]
      rcases k7 m' hm' with g | ⟨g1, g2, g3, g4⟩
      · exact .inl g
      · exact .inr ⟨g1, g2, st' _ _ (by omega) (by omega) g3, g4.ag (ya _ _ (by omega)) (fun i _ => yb _ _ (by omega)) (fun i _ => yb _ _ (by omega)) (fun j _ _ => zb _ _ (by omega) (by omega))⟩
  · exact k8.ag (ya _ _ (by omega)) (fun i _ => yb _ _ (by omega)) (fun i _ => yb _ _ (by omega)) (fun j _ _ => zb _ _ (by omega) (by omega))
theorem mark_back {w p q N m : Nat} (h : GP v w p q nh nd st V N t t') (hN : N + 1 ≤ 1000) (hm : m < 4) (hl : ¬ t.1 (132 + 11 * m) 2 = 0) : ∃ t1 t2 t1', tX6_copyFrom 3 (132 + 11 * m + 1) t = some t1 ∧ tX5_copyFrom 176 (132 + 11 * m + 8) t1 = some t2 ∧ tX10_copies (nI (47 * (1 + m))) 0 47 (uA (uI t' 218 0 0) 235 m 1) = some t1' ∧ GP v w p q nh nd st V (N + 1) (uI t2 17 2 0) (uI t1' 218 25 0) := by
  have h4 := h.h4
  have h6 := h.h6
  have h0 := h
  obtain ⟨k1, k2, k3, k4, k5, ⟨e, k, q1, q2, q3, q4, q5, q6⟩, k7, k8, k9⟩ := h
  obtain ⟨T1, a1, a2, a3⟩ := cp_e (a := 132 + 11 * m + 1) (a2 := 3) (t := t) (by omega)
  obtain ⟨T2, b1, b2, b3, b4, b5, b6, b7⟩ := cp5_e (a := 132 + 11 * m + 8) (a2 := 176) (t := T1) (by omega)
  obtain ⟨t1', c1, c2, c3⟩ := copies_e (p := 47 * (1 + m)) (q := 0) (N := 47) (t := uA (uI t' 218 0 0) 235 m 1) (by omega) (by omega) (by omega)
  obtain ⟨g1, _⟩ | ⟨g1, g2, g3, g4⟩ := k7 m hm
  · exact absurd g1 hl
  refine ⟨T1, T2, t1', a1, b1, c1, ?_⟩
  have ya : ∀ b k, b ≠ 3 → b ≠ 176 → ¬ (b = 17 ∧ k = 2) → (uI T2 17 2 0).1 b k = t.1 b k := by
    intro b k h1 h2 h3
    rw [uI_o h3, b5 _ _ h2, a2.1 _ _ h1]
  have yb : ∀ b i, ¬ (4 ≤ b ∧ b ≤ 9) → b ≠ 177 → b ≠ 178 → (uI T2 17 2 0).2.1 b i = t.2.1 b i := by
    intro b k h1 h2 h3
    show T2.2.1 b k = _
    rw [b6 _ _ h2 h3, a2.2.1 _ _ (by omega)]
  have y2 : (uI T2 17 2 0).2.2 = t.2.2 := by
    show T2.2.2 = _
    rw [b7, a2.2.2]
  have za : ∀ c k, ¬ (c = 218 ∧ (k = 0 ∨ k = 25)) → (uI t1' 218 25 0).1 c k = t'.1 c k := by
    intro c k hc
    rw [uI_o (by omega), c2.1]
    exact uI_o (by omega)
  have zb : ∀ c i, ¬ (c = 234 ∧ i < 47) → (uI t1' 218 25 0).2.1 c i = t'.2.1 c i := by
    intro c i h2
    show t1'.2.1 c i = _
    rw [c2.2.1 _ _ (by omega), uA_2]
    by_cases c9 : c = 235 ∧ i = m
    · rw [if_pos c9, c9.1, c9.2, g2]
    · rw [if_neg c9]
      rfl
  have zc : ∀ j, j < 47 → (uI t1' 218 25 0).2.1 234 (0 + j) = t'.2.1 234 (47 * (1 + m) + j) := by
    intro j hj
    show t1'.2.1 234 _ = _
    rw [c3 j hj, uA_2, if_neg (by omega)]
    rfl
  have z2 : (uI t1' 218 25 0).2.2 = t'.2.2 := by
    show t1'.2.2 = _
    rw [c2.2.2]
    rfl
  have y17 : (uI T2 17 2 0).1 17 2 = nI 0 := uI_s
  have z25 : (uI t1' 218 25 0).1 218 25 = nI 0 := uI_s
  have hcs : ∀ n m' S, CS nh nd (133 + 11 * m) n m' S t → CS nh nd 3 n m' S (uI T2 17 2 0) := by
    intro n m' S hc
    rw [show 133 + 11 * m = 132 + 11 * m + 1 from by omega] at hc
    exact (a3 nh nd n m' S h4 h6 hc).ag (by rw [uI_o (by omega), b5 _ _ (by omega)]) (by rw [uI_o (by omega), b5 _ _ (by omega)]) (by rw [uI_o (by omega), b5 _ _ (by omega)]) (fun j i _ _ => b6 _ _ (by omega) (by omega))
  have hse : SE nh 176 0 (uI T2 17 2 0) (uI t1' 218 25 0) := by
    rw [show 140 + 11 * m = 132 + 11 * m + 8 from by omega] at g4
    refine g4.ag ?_ ?_ ?_ ?_
    · rw [uI_o (by omega), b2, a2.1 _ _ (by omega)]
    · intro i hi
      show T2.2.1 _ _ = _
      rw [b3 i hi, a2.2.1 _ _ (by omega)]
    · intro i hi
      show T2.2.1 _ _ = _
      rw [b4 i hi, a2.2.1 _ _ (by omega)]
    · intro j h1 h2
      exact zc j h2
  generalize (uI T2 17 2 0) = t1 at *
  generalize (uI t1' 218 25 0) = t2' at *
  refine h0.s ⟨fun b j hb => ya _ _ (by omega) (by omega) (by omega), fun b i hb => yb _ _ (by omega) (by omega) (by omega), y2⟩ ⟨fun c j hc => za _ _ (by omega), fun c i h1 h2 => zb _ _ (by omega), z2⟩ ?_ ?_ ?_ hse hN
  · exact g3.to (by omega) hcs (fun n m S hc => hc.copy h4 h6 (fun j hj => zc j (by omega)) (fun j => zb _ _ (by omega)))
  · refine ⟨e, 0, q1, by omega, ?_, y17, z25, fun i hi => by omega⟩
    rw [ya _ _ (by omega) (by omega) (by omega)]
    exact q3
  · intro m' hm'
    rw [ya _ _ (by omega) (by omega) (by omega), zb 235 m' (by omega)]
    rcases k7 m' hm' with g | ⟨g1, g2, g3, g4⟩
    · exact .inl g
    · refine .inr ⟨g1, g2, g3.to (by omega) (fun n m S hc => hc.ag (ya _ _ (by omega) (by omega) (by omega)) (ya _ _ (by omega) (by omega) (by omega)) (ya _ _ (by omega) (by omega) (by omega)) (fun j i _ _ => yb _ _ (by omega) (by omega) (by omega))) (fun n m S hc => hc.copy h4 h6 (fun j hj => zb _ _ (by omega)) (fun j => zb _ _ (by omega))), g4.ag (ya _ _ (by omega) (by omega) (by omega)) (fun i _ => yb _ _ (by omega) (by omega) (by omega)) (fun i _ => yb _ _ (by omega) (by omega) (by omega)) (fun j _ _ => zb _ _ (by omega))⟩
theorem g_mark {N : Nat} (h : GR N t t') (hN : N + 1 ≤ 1000) (x y : Int32) : QG (N + 1) (tX9_mark x y t) (tX10_mark x y t') := by
  obtain ⟨v, w, p, q, nh, nd, st, V, h⟩ := h
  unfold tX9_mark tX10_mark
  simp only [ob_s, wi_e.1, wi_e.2, bI_0]
  cases hw : decide ((0 : Int32) ≤ x ∧ x ≤ 3)
  · simp only [tA_e, tA_l, tW0_e, tW0_l, nN_al, nN_la, nN_ad, nN_lm, nN_ml, nN_le, nN_lt, nN_eq, nN_lel, nN_lle, nN_ltl, nN_llt, nN_eql, nN_rm, nN_dv, ob_s, ob_2, ob_3, ite_true, ite_false, not_true_eq_false, not_false_eq_true, ite_self, eq_self, Nat.add_zero, decide_true, decide_false, decide_not, Bool.not_true, Bool.not_false, Bool.true_and, Bool.false_and, Bool.and_true, Bool.and_false, Bool.or_true, Bool.true_or, Bool.or_false, Bool.false_or, if_true, if_false, Bool.false_eq_true, z01_0, z01_1]
    exact QG.no h hN
  · obtain ⟨m, _, hm, rfl⟩ := wi_n (lo := 0) (hi := 3) (by decide) (by decide) hw
    by_cases c : y = 0
    · obtain ⟨t1, t1', e1, e2, e3⟩ := mark_lay h hN (m := m) (by omega)
      simp (disch := omega) only [eq_true c, tA_e, tA_l, tW0_e, tW0_l, nN_al, nN_la, nN_ad, nN_lm, nN_ml, nN_le, nN_lt, nN_eq, nN_lel, nN_lle, nN_ltl, nN_llt, nN_eql, nN_rm, nN_dv, ob_s, ob_2, ob_3, ite_true, ite_false, not_true_eq_false, not_false_eq_true, ite_self, eq_self, Nat.add_zero, decide_true, decide_false, decide_not, Bool.not_true, Bool.not_false, Bool.true_and, Bool.false_and, Bool.and_true, Bool.and_false, Bool.or_true, Bool.true_or, Bool.or_false, Bool.false_or, if_true, if_false, Bool.false_eq_true, z01_0, z01_1, Bool.true_eq_false, tQ_e, e1, tWA_e, nar_31, e2]
      exact ⟨_, _, _, rfl, rfl, v, w, p, q, nh, nd, st, V, e3⟩
    · have hl : (t.1 (132 + 11 * m) 2 = 0 ∧ t'.2.1 235 m = 0) ∨ (t.1 (132 + 11 * m) 2 = 1 ∧ t'.2.1 235 m = 1) := by
        rcases h.2.2.2.2.2.2.1 m (by omega) with g | ⟨g1, g2, _⟩
        · exact .inl g
        · exact .inr ⟨g1, g2⟩
      rcases hl with ⟨g1, g2⟩ | ⟨g1, g2⟩
      · have g2' : (uI t' 218 0 0).2.1 235 m = 0 := g2
        simp (disch := omega) only [c, tA_e, tA_l, tW0_e, tW0_l, nN_al, nN_la, nN_ad, nN_lm, nN_ml, nN_le, nN_lt, nN_eq, nN_lel, nN_lle, nN_ltl, nN_llt, nN_eql, nN_rm, nN_dv, ob_s, ob_2, ob_3, ite_true, ite_false, not_true_eq_false, not_false_eq_true, ite_self, eq_self, Nat.add_zero, decide_true, decide_false, decide_not, Bool.not_true, Bool.not_false, Bool.true_and, Bool.false_and, Bool.and_true, Bool.and_false, Bool.or_true, Bool.true_or, Bool.or_false, Bool.false_or, if_true, if_false, Bool.false_eq_true, z01_0, z01_1, Bool.true_eq_false, tQ_e, g1, g2']
        exact QG.no h hN
      · have g2' : (uI t' 218 0 0).2.1 235 m = 1 := g2
        have z : ¬ (1 : Int32) = 0 := by decide
        obtain ⟨t1, t2, t1', e1, e2, e3, e4⟩ := mark_back h hN (m := m) (by omega) (by rw [g1]; exact z)
        simp (disch := omega) only [c, tA_e, tA_l, tW0_e, tW0_l, nN_al, nN_la, nN_ad, nN_lm, nN_ml, nN_le, nN_lt, nN_eq, nN_lel, nN_lle, nN_ltl, nN_llt, nN_eql, nN_rm, nN_dv, ob_s, ob_2, ob_3, ite_true, ite_false, not_true_eq_false, not_false_eq_true, ite_self, eq_self, Nat.add_zero, decide_true, decide_false, decide_not, Bool.not_true, Bool.not_false, Bool.true_and, Bool.false_and, Bool.and_true, Bool.and_false, Bool.or_true, Bool.true_or, Bool.or_false, Bool.false_or, if_true, if_false, Bool.false_eq_true, z01_0, z01_1, Bool.true_eq_false, tQ_e, g1, g2', z, e1, e2, tWA_e, nar_31, e3]
        exact ⟨_, _, _, rfl, rfl, v, w, p, q, nh, nd, st, V, e4⟩
theorem PN.boL (h : PN v nh nd st V n m S t t') : ∀ (k i f f' : Nat) (x : Int32), i + k = nh → k < f → k < f' → ∃ r, tX6_bedsOfAll_L4 f 3 v x (nI i) t = some r ∧ tX10_bedsOfAll_L4 f' x (nI i) t' = some r := by
  have h4 := h.1.h4
  intro k
  induction k with
  | zero =>
    intro i f f' x hi hf hf'
    obtain ⟨f, rfl⟩ : ∃ g, f = g + 1 := ⟨f - 1, by omega⟩
    obtain ⟨f', rfl⟩ : ∃ g, f' = g + 1 := ⟨f' - 1, by omega⟩
    obtain rfl : i = nh := by omega
    rw [tX6_bedsOfAll_L4, tX10_bedsOfAll_L4]
    simp (disch := omega) only [tA_e, tA_l, tW0_e, tW0_l, nN_al, nN_la, nN_ad, nN_lm, nN_ml, nN_le, nN_lt, nN_eq, nN_lel, nN_lle, nN_ltl, nN_llt, nN_eql, nN_rm, nN_dv, ob_s, ob_2, ob_3, ite_true, ite_false, not_true_eq_false, not_false_eq_true, ite_self, eq_self, Nat.add_zero, h.1.ch, h.1.houses, Nat.le_refl]
    exact ⟨_, rfl, rfl⟩
  | succ k ih =>
    intro i f f' x hi hf hf'
    obtain ⟨f, rfl⟩ : ∃ g, f = g + 1 := ⟨f - 1, by omega⟩
    obtain ⟨f', rfl⟩ : ∃ g, f' = g + 1 := ⟨f' - 1, by omega⟩
    have c1 : ¬ nh ≤ i := by omega
    have hj : i < nh := by omega
    rw [tX6_bedsOfAll_L4, tX10_bedsOfAll_L4]
    simp (disch := omega) only [tA_e, tA_l, tW0_e, tW0_l, nN_al, nN_la, nN_ad, nN_lm, nN_ml, nN_le, nN_lt, nN_eq, nN_lel, nN_lle, nN_ltl, nN_llt, nN_eql, nN_rm, nN_dv, ob_s, ob_2, ob_3, ite_true, ite_false, not_true_eq_false, not_false_eq_true, ite_self, eq_self, Nat.add_zero, h.1.ch, h.1.houses, c1, h.c1 hj, h.m1 hj]
    exact ih (i + 1) f f' _ (by omega) (by omega) (by omega)
theorem PN.faL (h : PN v nh nd st V n m S t t') : ∀ (k i f f' : Nat) (x : Int32), i + k = nd → k < f → k < f' → ∃ r, tX6_faded_L4 f 3 v x (nI i) t = some r ∧ tX10_fadedNow_L4 f' x (nI i) t' = some r := by
  have h4 := h.1.h6
  intro k
  induction k with
  | zero =>
    intro i f f' x hi hf hf'
    obtain ⟨f, rfl⟩ : ∃ g, f = g + 1 := ⟨f - 1, by omega⟩
    obtain ⟨f', rfl⟩ : ∃ g, f' = g + 1 := ⟨f' - 1, by omega⟩
    obtain rfl : i = nd := by omega
    rw [tX6_faded_L4, tX10_fadedNow_L4]
    simp (disch := omega) only [tA_e, tA_l, tW0_e, tW0_l, nN_al, nN_la, nN_ad, nN_lm, nN_ml, nN_le, nN_lt, nN_eq, nN_lel, nN_lle, nN_ltl, nN_llt, nN_eql, nN_rm, nN_dv, ob_s, ob_2, ob_3, ite_true, ite_false, not_true_eq_false, not_false_eq_true, ite_self, eq_self, Nat.add_zero, h.1.cd, h.1.days, Nat.le_refl]
    exact ⟨_, rfl, rfl⟩
  | succ k ih =>
    intro i f f' x hi hf hf'
    obtain ⟨f, rfl⟩ : ∃ g, f = g + 1 := ⟨f - 1, by omega⟩
    obtain ⟨f', rfl⟩ : ∃ g, f' = g + 1 := ⟨f' - 1, by omega⟩
    have c1 : ¬ nd ≤ i := by omega
    have hj : i < nd := by omega
    rw [tX6_faded_L4, tX10_fadedNow_L4]
    simp (disch := omega) only [tA_e, tA_l, tW0_e, tW0_l, nN_al, nN_la, nN_ad, nN_lm, nN_ml, nN_le, nN_lt, nN_eq, nN_lel, nN_lle, nN_ltl, nN_llt, nN_eql, nN_rm, nN_dv, ob_s, ob_2, ob_3, ite_true, ite_false, not_true_eq_false, not_false_eq_true, ite_self, eq_self, Nat.add_zero, h.1.cd, h.1.days, c1, h.c3 hj, h.m3 hj]
    by_cases c : S 3 i = 0
    · simp only [tA_e, tA_l, tW0_e, tW0_l, nN_al, nN_la, nN_ad, nN_lm, nN_ml, nN_le, nN_lt, nN_eq, nN_lel, nN_lle, nN_ltl, nN_llt, nN_eql, nN_rm, nN_dv, ob_s, ob_2, ob_3, ite_true, ite_false, not_true_eq_false, not_false_eq_true, ite_self, eq_self, Nat.add_zero, eq_true c]
      exact ih (i + 1) f f' _ (by omega) (by omega) (by omega)
    · simp only [tA_e, tA_l, tW0_e, tW0_l, nN_al, nN_la, nN_ad, nN_lm, nN_ml, nN_le, nN_lt, nN_eq, nN_lel, nN_lle, nN_ltl, nN_llt, nN_eql, nN_rm, nN_dv, ob_s, ob_2, ob_3, ite_true, ite_false, not_true_eq_false, not_false_eq_true, ite_self, eq_self, Nat.add_zero, c, Int32.or_zero]
      exact ih (i + 1) f f' _ (by omega) (by omega) (by omega)
set_option maxHeartbeats 4000000 in
theorem q_count {w p q N : Nat} (h : GP v w p q nh nd st V N t t') (x : Int32) : QB (tX9_count x t) (tX10_count x t') t' := by
  obtain ⟨n, m, S, e1, e4, e5, e6, e7⟩ := h.qr.now
  have h6 := h.h6
  have h4 := h.h4
  obtain ⟨k1, k2, k3, k4, k5, ⟨e, k, q1, q2, q3, q4, q5, q6⟩, k7, ⟨sk, s1, s2, s3, s4⟩, ⟨L, l1, l2, l3, l4⟩, ⟨tl, tf, p1, p2, p3, p4⟩, k11⟩ := h
  unfold tX9_count tX10_count
  simp only [ob_s, e1.2.2, k3.2.2.1]
  cases hw : decide ((0 : Int32) ≤ x ∧ x ≤ 12)
  · have := wi_f (k := 12) (by decide) hw
    rw [if_pos (by omega), if_pos (by omega)]
    exact QB.mk
  · obtain ⟨k9, _, hk, rfl⟩ := wi_n (lo := 0) (hi := 12) (by decide) (by decide) hw
    have hne : ¬ ((k9 : Int) < 0 ∨ 12 < (k9 : Int)) := by omega
    rw [sm_n (by omega)]
    simp only [hne, if_false]
    rw [show ((k9 : Int) - 0).toNat = k9 from by omega]
    have hc : k9 = 0 ∨ k9 = 1 ∨ k9 = 2 ∨ k9 = 3 ∨ k9 = 4 ∨ k9 = 5 ∨ k9 = 6 ∨ k9 = 7 ∨ k9 = 8 ∨ k9 = 9 ∨ k9 = 10 ∨ k9 = 11 ∨ k9 = 12 := by omega
    have c3 : t.1 3 7 = nI (n / 12) := e1.1.cy
    have c4 : t.1 3 6 = nI (n % 12) := e1.1.cn
    have c7 : t.1 3 8 = nI m := e1.1.co
    have m0 : (uI t' 218 0 0).2.1 234 0 = nI n := e1.1.mn
    have m7 : (uI t' 218 0 0).2.1 234 1 = nI m := e1.1.mo
    have m9 : (uI t' 218 0 0).2.1 231 0 = nI L := l3
    have m10 : (uI t' 218 0 0).2.1 234 30 = nI sk := s3
    have m11 : (uI t' 218 0 0).1 218 25 = nI k := by rw [uI_o (by omega)]; exact q5
    have m12 : (uI t' 218 0 0).1 218 2 = nI tl := by rw [uI_o (by omega)]; exact p3
    have m5 : tX10_somewhere 0 (uI t' 218 0 0) = some (nI (sw (S 4) nd)) := e1.1.somewhere' e1.2.1
    rcases hc with rfl | rfl | rfl | rfl | rfl | rfl | rfl | rfl | rfl | rfl | rfl | rfl | rfl
    · rw [show nI 0 = (0 : Int32) from rfl]
      simp (decide := true) (disch := omega) only [tA_e, tA_l, tW0_e, tW0_l, nN_al, nN_la, nN_ad, nN_lm, nN_ml, nN_le, nN_lt, nN_eq, nN_lel, nN_lle, nN_ltl, nN_llt, nN_eql, nN_rm, nN_dv, ob_s, ob_2, ob_3, ite_true, ite_false, not_true_eq_false, not_false_eq_true, ite_self, eq_self, Nat.add_zero, e1.1.ch, e1.1.mh]
      exact QB.mk
    · rw [show nI 1 = (1 : Int32) from rfl]
      simp (decide := true) (disch := omega) only [tA_e, tA_l, tW0_e, tW0_l, nN_al, nN_la, nN_ad, nN_lm, nN_ml, nN_le, nN_lt, nN_eq, nN_lel, nN_lle, nN_ltl, nN_llt, nN_eql, nN_rm, nN_dv, ob_s, ob_2, ob_3, ite_true, ite_false, not_true_eq_false, not_false_eq_true, ite_self, eq_self, Nat.add_zero, e1.1.cd, e1.1.md]
      exact QB.mk
    · rw [show nI 2 = (2 : Int32) from rfl]
      simp (decide := true) (disch := omega) only [tA_e, tA_l, tW0_e, tW0_l, nN_al, nN_la, nN_ad, nN_lm, nN_ml, nN_le, nN_lt, nN_eq, nN_lel, nN_lle, nN_ltl, nN_llt, nN_eql, nN_rm, nN_dv, ob_s, ob_2, ob_3, ite_true, ite_false, not_true_eq_false, not_false_eq_true, ite_self, eq_self, Nat.add_zero, e1.1.cst, e1.1.mst]
      exact QB.mk
    · simp (decide := true) (disch := omega) only [tA_e, tA_l, tW0_e, tW0_l, nN_al, nN_la, nN_ad, nN_lm, nN_ml, nN_le, nN_lt, nN_eq, nN_lel, nN_lle, nN_ltl, nN_llt, nN_eql, nN_rm, nN_dv, ob_s, ob_2, ob_3, ite_true, ite_false, not_true_eq_false, not_false_eq_true, ite_self, eq_self, Nat.add_zero, c3, m0]
      exact QB.mk
    · simp (decide := true) (disch := omega) only [tA_e, tA_l, tW0_e, tW0_l, nN_al, nN_la, nN_ad, nN_lm, nN_ml, nN_le, nN_lt, nN_eq, nN_lel, nN_lle, nN_ltl, nN_llt, nN_eql, nN_rm, nN_dv, ob_s, ob_2, ob_3, ite_true, ite_false, not_true_eq_false, not_false_eq_true, ite_self, eq_self, Nat.add_zero, c4, m0]
      exact QB.mk
    · simp (decide := true) (disch := omega) only [tA_e, tA_l, tW0_e, tW0_l, nN_al, nN_la, nN_ad, nN_lm, nN_ml, nN_le, nN_lt, nN_eq, nN_lel, nN_lle, nN_ltl, nN_llt, nN_eql, nN_rm, nN_dv, ob_s, ob_2, ob_3, ite_true, ite_false, not_true_eq_false, not_false_eq_true, ite_self, eq_self, Nat.add_zero, e1.1.somewhere, m5]
      exact QB.mk
    · obtain ⟨r, f1, f2⟩ := e1.boL nh 0 4000 4000 0 (by omega) (by omega) (by omega)
      rw [show nI 0 = (0 : Int32) from rfl] at f1 f2
      unfold tX6_bedsOfAll tX10_bedsOfAll
      simp (decide := true) (disch := omega) only [tA_e, tA_l, tW0_e, tW0_l, nN_al, nN_la, nN_ad, nN_lm, nN_ml, nN_le, nN_lt, nN_eq, nN_lel, nN_lle, nN_ltl, nN_llt, nN_eql, nN_rm, nN_dv, ob_s, ob_2, ob_3, ite_true, ite_false, not_true_eq_false, not_false_eq_true, ite_self, eq_self, Nat.add_zero, f1, f2]
      exact QB.mk
    · simp (decide := true) (disch := omega) only [tA_e, tA_l, tW0_e, tW0_l, nN_al, nN_la, nN_ad, nN_lm, nN_ml, nN_le, nN_lt, nN_eq, nN_lel, nN_lle, nN_ltl, nN_llt, nN_eql, nN_rm, nN_dv, ob_s, ob_2, ob_3, ite_true, ite_false, not_true_eq_false, not_false_eq_true, ite_self, eq_self, Nat.add_zero, c7, m7]
      exact QB.mk
    · obtain ⟨r, f1, f2⟩ := e1.faL nd 0 4000 4000 0 (by omega) (by omega) (by omega)
      rw [show nI 0 = (0 : Int32) from rfl] at f1 f2
      unfold tX6_faded tX10_fadedNow
      simp (decide := true) (disch := omega) only [tA_e, tA_l, tW0_e, tW0_l, nN_al, nN_la, nN_ad, nN_lm, nN_ml, nN_le, nN_lt, nN_eq, nN_lel, nN_lle, nN_ltl, nN_llt, nN_eql, nN_rm, nN_dv, ob_s, ob_2, ob_3, ite_true, ite_false, not_true_eq_false, not_false_eq_true, ite_self, eq_self, Nat.add_zero, f1, f2]
      exact QB.mk
    · simp (decide := true) (disch := omega) only [tA_e, tA_l, tW0_e, tW0_l, nN_al, nN_la, nN_ad, nN_lm, nN_ml, nN_le, nN_lt, nN_eq, nN_lel, nN_lle, nN_ltl, nN_llt, nN_eql, nN_rm, nN_dv, ob_s, ob_2, ob_3, ite_true, ite_false, not_true_eq_false, not_false_eq_true, ite_self, eq_self, Nat.add_zero, l2, m9]
      exact QB.mk
    · simp (decide := true) (disch := omega) only [tA_e, tA_l, tW0_e, tW0_l, nN_al, nN_la, nN_ad, nN_lm, nN_ml, nN_le, nN_lt, nN_eq, nN_lel, nN_lle, nN_ltl, nN_llt, nN_eql, nN_rm, nN_dv, ob_s, ob_2, ob_3, ite_true, ite_false, not_true_eq_false, not_false_eq_true, ite_self, eq_self, Nat.add_zero, s2, m10]
      exact QB.mk
    · simp (decide := true) (disch := omega) only [tA_e, tA_l, tW0_e, tW0_l, nN_al, nN_la, nN_ad, nN_lm, nN_ml, nN_le, nN_lt, nN_eq, nN_lel, nN_lle, nN_ltl, nN_llt, nN_eql, nN_rm, nN_dv, ob_s, ob_2, ob_3, ite_true, ite_false, not_true_eq_false, not_false_eq_true, ite_self, eq_self, Nat.add_zero, q4, m11]
      exact QB.mk
    · simp (decide := true) (disch := omega) only [tA_e, tA_l, tW0_e, tW0_l, nN_al, nN_la, nN_ad, nN_lm, nN_ml, nN_le, nN_lt, nN_eq, nN_lel, nN_lle, nN_ltl, nN_llt, nN_eql, nN_rm, nN_dv, ob_s, ob_2, ob_3, ite_true, ite_false, not_true_eq_false, not_false_eq_true, ite_self, eq_self, Nat.add_zero, p2, m12]
      exact QB.mk
end
