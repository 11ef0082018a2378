/-! ===== PURE: what is done, and undone ===== -/
section
variable {v nh nd st a b n m : Nat} {V : Nat → Nat → Nat} {S : Nat → Nat → Int32} {t0 t0' t t' : tS}
theorem cp_e {a2 : Nat} (hd : a + 7 ≤ a2 ∨ a2 + 7 ≤ a) : ∃ t1, tX6_copyFrom a2 a t = some t1 ∧ CG a2 t t1 ∧ ∀ nh nd n m S, nh ≤ 4 → nd ≤ 6 → CS nh nd a n m S t → CS nh nd a2 n m S t1 := by
  have key : ∃ t1, tX6_copyFrom a2 a t = some t1 ∧ CG a2 t t1 := by
    unfold tX6_copyFrom
    simp only [tWC_4, tWC_6, ob_s]
    refine ⟨_, rfl, ?_, ?_, ?_⟩
    · intro b k hb
      rw [uI_1, if_neg (by omega), uI_1, if_neg (by omega), uI_1, if_neg (by omega)]
      rfl
    · intro b i hb
      simp (disch := omega) only [uI_2, uF_n]
    · rfl
  obtain ⟨t1, e1, e2⟩ := key
  refine ⟨t1, e1, e2, fun nh nd n m S h4 h6 hc => ?_⟩
  obtain ⟨t2, f1, f2, _⟩ := hc.copy h4 h6 hd
  rw [e1] at f1
  cases f1
  exact f2
theorem min16 {k : Nat} (hk : k ≤ 16) : tJ9_min_7cf53 (nI (k + 1)) 16 t = some (nI (if k = 16 then 16 else k + 1)) := by
  unfold tJ9_min_7cf53
  have e : (16 : Int32) < nI (k + 1) ↔ 16 < k + 1 := nN_llt (by omega) (by decide)
  simp only [e]
  by_cases c : k = 16
  · rw [if_pos (by omega), if_pos c]
    rfl
  · rw [if_neg (by omega), if_neg c]
    rfl
theorem uI_s {k : Nat} {x : Int32} : (uI t a k x).1 a k = x := by rw [uI_1, if_pos ⟨rfl, rfl⟩]
theorem uI_o {k c j : Nat} {x : Int32} (h : ¬ (c = a ∧ j = k)) : (uI t a k x).1 c j = t.1 c j := by rw [uI_1, if_neg h]
theorem keepC {e k : Nat} (he : e < 16) (hk : k ≤ 16) (h3 : t.1 17 1 = nI e) (h4 : t.1 17 2 = nI k) : ∃ t1, tX0_keep 3 t = some t1 ∧ t1.1 17 1 = nI ((e + 1) % 16) ∧ t1.1 17 2 = nI (if k = 16 then 16 else k + 1) ∧ (∀ b j, b ≠ 17 → b ≠ 19 + 7 * ((e + 1) % 16) → t1.1 b j = t.1 b j) ∧ (∀ b i, ¬ (19 + 7 * ((e + 1) % 16) + 1 ≤ b ∧ b ≤ 19 + 7 * ((e + 1) % 16) + 6) → t1.2.1 b i = t.2.1 b i) ∧ t1.2.2 = t.2.2 ∧ ∀ nh nd n m S, nh ≤ 4 → nd ≤ 6 → CS nh nd 3 n m S t → CS nh nd (19 + 7 * ((e + 1) % 16)) n m S t1 := by
  obtain ⟨T, c1, c2, c3⟩ := cp_e (a := 3) (a2 := 19 + 7 * ((e + 1) % 16)) (t := uI t 17 1 (nI ((e + 1) % 16))) (by omega)
  have w2 : T.1 17 2 = nI k := by
    rw [c2.1 17 2 (by omega), uI_o (by omega)]
    exact h4
  have w1 : T.1 17 1 = nI ((e + 1) % 16) := by
    rw [c2.1 17 1 (by omega), uI_s]
  unfold tX0_keep
  simp (disch := omega) only [tA_e, tA_l, tW0_e, tW0_l, nN_al, nN_la, nN_ad, nN_lm, nN_ml, nN_le, nN_lt, nN_eq, nN_lel, nN_lle, nN_ltl, nN_llt, nN_eql, nN_rm, nN_dv, ob_s, ob_2, ob_3, ite_true, ite_false, not_true_eq_false, not_false_eq_true, ite_self, eq_self, Nat.add_zero, h3, uI_s, tQ_e, c1, w2, min16 hk]
  refine ⟨_, rfl, ?_, ?_, ?_, ?_, ?_, ?_⟩
  · rw [uI_o (by omega)]; exact w1
  · rw [uI_s]
  · intro b j h1 h2
    rw [uI_o (by omega), c2.1 b j h2, uI_o (by omega)]
  · intro b i h1
    show T.2.1 b i = _
    rw [c2.2.1 b i h1]
    rfl
  · show T.2.2 = _
    rw [c2.2.2]
    rfl
  · intro nh nd n m S g4 g6 hc
    have hc' : CS nh nd 3 n m S (uI t 17 1 (nI ((e + 1) % 16))) := hc.ag (uI_o (by omega)) (uI_o (by omega)) (uI_o (by omega)) (fun _ _ _ _ => rfl)
    exact (c3 nh nd n m S g4 g6 hc').ag (uI_o (by omega)) (uI_o (by omega)) (uI_o (by omega)) (fun _ _ _ _ => rfl)
theorem kpL : ∀ (k i f : Nat) (t : tS), i + k = 16 → 1 ≤ i → k < f → ∃ t1, tX10_keeps_L11 f (nI i) t = some t1 ∧ MG 235 987 t t1 ∧ (∀ r j, i ≤ r + 1 → r < 15 → j < 30 → t1.2.1 234 (47 * (5 + r) + j) = t.2.1 234 (47 * (5 + (r + 1)) + j)) ∧ (∀ r j, r + 1 < i → j < 30 → t1.2.1 234 (47 * (5 + r) + j) = t.2.1 234 (47 * (5 + r) + j)) := by
  intro k
  induction k with
  | zero =>
    intro i f t hi h1 hf
    obtain ⟨f, rfl⟩ : ∃ g, f = g + 1 := ⟨f - 1, by omega⟩
    obtain rfl : i = 16 := by omega
    rw [tX10_keeps_L11]
    simp (disch := omega) only [tA_e, tA_l, tW0_e, tW0_l, nN_al, nN_la, nN_ad, nN_lm, nN_ml, nN_le, nN_lt, nN_eq, nN_lel, nN_lle, nN_ltl, nN_llt, nN_eql, nN_rm, nN_dv, ob_s, ob_2, ob_3, ite_true, ite_false, not_true_eq_false, not_false_eq_true, ite_self, eq_self, Nat.add_zero, Nat.le_refl]
    exact ⟨_, rfl, ⟨rfl, fun _ _ _ => rfl, rfl⟩, fun r j _ _ _ => by omega, fun _ _ _ _ => rfl⟩
  | succ k ih =>
    intro i f t hi h1 hf
    obtain ⟨f, rfl⟩ : ∃ g, f = g + 1 := ⟨f - 1, by omega⟩
    have c1 : ¬ 16 ≤ i := by omega
    obtain ⟨t2, e1, e2, e3⟩ := copies_e (p := 47 * (5 + i)) (q := 47 * (5 + i - 1)) (N := 30) (t := t) (by omega) (by omega) (by omega)
    have e1' : tX10_copies (nI (47 * (5 + i))) (nI (47 * (5 + i - 1))) 30 t = some t2 := e1
    obtain ⟨t1, f1, f2, f3, f4⟩ := ih (i + 1) f t2 (by omega) (by omega) (by omega)
    rw [tX10_keeps_L11]
    simp (disch := omega) only [tA_e, tA_l, tW0_e, tW0_l, nN_al, nN_la, nN_ad, nN_lm, nN_ml, nN_le, nN_lt, nN_eq, nN_lel, nN_lle, nN_ltl, nN_llt, nN_eql, nN_rm, nN_dv, ob_s, ob_2, ob_3, ite_true, ite_false, not_true_eq_false, not_false_eq_true, ite_self, eq_self, Nat.add_zero, c1, nN_sl, e1', f1]
    refine ⟨t1, rfl, ⟨f2.1.trans e2.1, ?_, f2.2.2.trans e2.2.2⟩, ?_, ?_⟩
    · intro c j hc
      rw [f2.2.1 c j hc, e2.2.1 c j (by omega)]
    · intro r j h2 h3 h4
      by_cases c : r + 1 = i
      · obtain rfl : i = r + 1 := by omega
        rw [f4 r j (by omega) h4]
        have := e3 j h4
        rw [show 5 + (r + 1) - 1 = 5 + r from by omega] at this
        exact this
      · rw [f3 r j (by omega) h3 h4, e2.2.1 _ _ (by omega)]
    · intro r j h2 h3
      rw [f4 r j (by omega) h3, e2.2.1 _ _ (by omega)]
theorem keepM {k : Nat} (hk : k ≤ 16) (h5 : t'.1 218 25 = nI k) : ∃ t1, tX10_keeps t' = some t1 ∧ t1.1 218 25 = nI (if k = 16 then 16 else k + 1) ∧ (∀ c j, ¬ (c = 218 ∧ j = 25) → t1.1 c j = t'.1 c j) ∧ (∀ c i, ¬ (c = 234 ∧ 235 ≤ i ∧ i < 987) → t1.2.1 c i = t'.2.1 c i) ∧ t1.2.2 = t'.2.2 ∧ (∀ j, j < 30 → t1.2.1 234 (47 * (5 + (if k = 16 then 15 else k)) + j) = t'.2.1 234 j) ∧ (∀ r j, r < (if k = 16 then 15 else k) → j < 30 → t1.2.1 234 (47 * (5 + r) + j) = t'.2.1 234 (47 * (5 + (if k = 16 then r + 1 else r)) + j)) := by
  unfold tX10_keeps
  by_cases c : k = 16
  · subst c
    obtain ⟨t2, e1, e2, e3, _⟩ := kpL 15 1 4000 t' (by omega) (by omega) (by omega)
    have e1' : tX10_keeps_L11 4000 1 t' = some t2 := e1
    have w1 : t2.1 218 25 = nI 16 := by rw [e2.1]; exact h5
    obtain ⟨t3, f1, f2, f3⟩ := copies_e (p := 0) (q := 47 * (5 + (16 - 1))) (N := 30) (t := uI t2 218 25 (nI (16 - 1))) (by omega) (by omega) (by omega)
    have f1' : tX10_copies 0 (nI (47 * (5 + (16 - 1)))) 30 (uI t2 218 25 (nI (16 - 1))) = some t3 := f1
    have w2 : t3.1 218 25 = nI (16 - 1) := by rw [f2.1, uI_s]
    simp (disch := omega) only [tA_e, tA_l, tW0_e, tW0_l, nN_al, nN_la, nN_ad, nN_lm, nN_ml, nN_le, nN_lt, nN_eq, nN_lel, nN_lle, nN_ltl, nN_llt, nN_eql, nN_rm, nN_dv, ob_s, ob_2, ob_3, ite_true, ite_false, not_true_eq_false, not_false_eq_true, ite_self, eq_self, Nat.add_zero, h5, e1', w1, nN_sl, uI_s, f1', w2]
    refine ⟨_, rfl, ?_, ?_, ?_, ?_, ?_, ?_⟩
    · rw [uI_s]
    · intro c j hc
      rw [uI_o (by omega), f2.1, uI_o (by omega), e2.1]
    · intro c i hc
      show t3.2.1 c i = _
      rw [f2.2.1 c i (by omega)]
      show t2.2.1 c i = _
      rw [e2.2.1 c i (by omega)]
    · show t3.2.2 = _
      rw [f2.2.2]
      show t2.2.2 = _
      rw [e2.2.2]
    · intro j hj
      have := f3 j hj
      show t3.2.1 234 (47 * (5 + 15) + j) = _
      rw [this]
      show t2.2.1 234 (0 + j) = _
      rw [e2.2.1 _ _ (by omega), Nat.zero_add]
    · intro r j hr hj
      have hr : r < 15 := hr
      show t3.2.1 234 (47 * (5 + r) + j) = t'.2.1 234 (47 * (5 + (r + 1)) + j)
      rw [f2.2.1 _ _ (by omega)]
      exact e3 r j (by omega) hr hj
  · obtain ⟨t3, f1, f2, f3⟩ := copies_e (p := 0) (q := 47 * (5 + k)) (N := 30) (t := t') (by omega) (by omega) (by omega)
    have f1' : tX10_copies 0 (nI (47 * (5 + k))) 30 t' = some t3 := f1
    have w2 : t3.1 218 25 = nI k := by rw [f2.1]; exact h5
    simp (disch := omega) only [tA_e, tA_l, tW0_e, tW0_l, nN_al, nN_la, nN_ad, nN_lm, nN_ml, nN_le, nN_lt, nN_eq, nN_lel, nN_lle, nN_ltl, nN_llt, nN_eql, nN_rm, nN_dv, ob_s, ob_2, ob_3, ite_true, ite_false, not_true_eq_false, not_false_eq_true, ite_self, eq_self, Nat.add_zero, h5, c, f1', w2]
    refine ⟨_, rfl, ?_, ?_, ?_, ?_, ?_, ?_⟩
    · rw [uI_s]
    · intro c j hc
      rw [uI_o (by omega), f2.1]
    · intro c i hc
      show t3.2.1 c i = _
      rw [f2.2.1 c i (by omega)]
    · exact f2.2.2
    · intro j hj
      have := f3 j hj
      show t3.2.1 234 _ = _
      rw [this, Nat.zero_add]
    · intro r j hr hj
      show t3.2.1 234 _ = _
      rw [f2.2.1 _ _ (by omega)]
theorem PR.of (h : BR v nh nd st V t t') (hc : CS nh nd a n m S t) (hm : MS nh nd b n m S t') (ha : a + 7 ≤ 182) (hb : b + 47 ≤ 1081) : PR v nh nd st V a b n m S t t' t t' := by
  obtain ⟨k1, k2, k3, k4, k5⟩ := h
  exact ⟨k1, ⟨k2.1, k2.2, ha, hb⟩, k3, k4, k5, hc, hm, CF.rf, MF.rf⟩
/-- what is done, in both: first all is kept -/
theorem GP.done {w p q N : Nat} (h : GP v w p q nh nd st V N t t') (hN : N + 1 ≤ 1000) : ∃ n m S t1 t1', PN v nh nd st V n m S t (uI t' 218 0 0) ∧ (∀ j, j < nh → NN (S 1 j) 10) ∧ (∀ d, d < nd → S 2 d = nI (V 7 d)) ∧ n ≤ N ∧ m ≤ 6 * N ∧ tX0_keep 3 t = some t1 ∧ tX10_keeps (uI t' 218 0 0) = some t1' ∧ PR v nh nd st V 3 0 n m S t1 t1' t1 t1' ∧ t1.2.2.2.2 0 9 = v ∧ ∀ n2 m2 S2 t2 t2', PR v nh nd st V 3 0 n2 m2 S2 t1 t1' t2 t2' → SK nh nd st S2 → (∀ j, j < nh → NN (S2 1 j) 10) → (∀ d, d < nd → S2 2 d = nI (V 7 d)) → n2 ≤ N + 1 → m2 ≤ 6 * (N + 1) → GP v w p q nh nd st V (N + 1) t2 t2' := by
  have h4 := h.h4
  have h6 := h.h6
  have hv := h.1
  have h0 := h
  obtain ⟨k1, k2, k3, k4, ⟨n, m, S, s1, s2, s3, s4, s5, s6, s7⟩, ⟨e, k, q1, q2, q3, q4, q5, q6⟩, k7⟩ := h
  have s2' : MS nh nd 0 n m S (uI t' 218 0 0) := s2
  obtain ⟨t1, a1, a2, a3, a4, a5, a6, a7⟩ := keepC q1 q2 q3 q4
  have q5' : (uI t' 218 0 0).1 218 25 = nI k := by rw [uI_o (by omega)]; exact q5
  obtain ⟨t1', b1, b2, b3, b4, b5, b6, b7⟩ := keepM q2 q5'
  have hy : YK t t1 := ⟨fun b k _ _ h3 => a4 b k (by omega) (by omega), fun b i _ h2 _ _ _ => a5 b i (by omega), by rw [a6], by rw [a6]⟩
  have hz : ZK (uI t' 218 0 0) t1' := ⟨fun c k hc => b3 c k (by omega), fun c i _ _ _ h4 => b4 c i (by omega), by rw [b5], by rw [b5]⟩
  have hz2 : ZK t' t1' := (ZK.th (.inl rfl)).tr hz
  have hbr := YK.br h0 hy hz2
  have c1 : CS nh nd 3 n m S t1 := s1.ag (a4 _ _ (by omega) (by omega)) (a4 _ _ (by omega) (by omega)) (a4 _ _ (by omega) (by omega)) (fun j i _ _ => a5 _ _ (by omega))
  have c2 : MS nh nd 0 n m S t1' := s2'.copy h4 h6 (fun j _ => b4 _ _ (by omega)) (fun j => b4 _ _ (by omega))
  refine ⟨n, m, S, t1, t1', ⟨PR.of k4 s1 s2' (by omega) (by omega), s3, k3.1⟩, s4, s5, s6, s7, a1, b1, PR.of hbr c1 c2 (by omega) (by omega), by rw [a6]; exact k3.1, ?_⟩
  intro n2 m2 S2 t2 t2' hp g1 g2 g3 g4 g5
  obtain ⟨_, _, _, _, _, p6, p7, p8, p9⟩ := hp
  have hy2 : YK t1 t2 := ⟨fun b k h1 _ _ => p8.1 b k h1, fun b i h1 _ h3 h4 _ => p8.2.1 b i (by omega) (by omega), by rw [p8.2.2], by rw [p8.2.2]⟩
  have hz3 : ZK t1' t2' := ⟨fun c k hc => p9.1 c k (by omega), fun c i h1 h2 _ h4 => p9.2.1 c i h1 h2 (by omega), by rw [p9.2.2], by rw [p9.2.2]⟩
  refine h0.k (hy.tr hy2) (hz2.tr hz3) ⟨n2, m2, S2, p6, p7, g1, g2, g3, g4, g5⟩ ?_ (by omega) hN
  refine ⟨(e + 1) % 16, if k = 16 then 16 else k + 1, Nat.mod_lt _ (by decide), by split <;> omega, ?_, ?_, ?_, ?_⟩
  · rw [p8.1 _ _ (by omega)]; exact a2
  · rw [p8.1 _ _ (by omega)]; exact a3
  · rw [p9.1 _ _ (by omega)]; exact b2
  · intro i hi
    have tc : ∀ s n m S, s < 16 → CS nh nd (19 + 7 * s) n m S t1 → CS nh nd (19 + 7 * s) n m S t2 := by
      intro s n m S hs hc
      exact hc.ag (p8.1 _ _ (by omega)) (p8.1 _ _ (by omega)) (p8.1 _ _ (by omega)) (fun j i _ _ => p8.2.1 _ _ (by omega) (by omega))
    have tm : ∀ r j, j < 30 → t2'.2.1 234 (47 * (5 + r) + j) = t1'.2.1 234 (47 * (5 + r) + j) := by
      intro r j hj
      exact p9.2.1 _ _ (by omega) (by omega) (by omega)
    have td : ∀ j, t2'.2.1 236 j = t'.2.1 236 j := by
      intro j
      rw [p9.2.1 _ _ (by omega) (by omega) (by omega), b4 _ _ (by omega)]
      rfl
    by_cases c : i = 0
    · subst c
      have hst : ST nh nd st V 3 0 N t t' := ⟨n, m, S, s1, s2, s3, s4, s5, s6, s7⟩
      have e1 : ((e + 1) % 16 + 16 - 0) % 16 = (e + 1) % 16 := by omega
      rw [e1]
      refine hst.to (by omega) (fun n m S hc => tc _ _ _ _ (Nat.mod_lt _ (by decide)) (a7 nh nd n m S h4 h6 hc)) (fun n m S hc => hc.copy h4 h6 ?_ td)
      intro j hj
      rw [tm _ _ hj]
      have := b6 j hj
      rw [show (if k = 16 then 16 else k + 1) - 1 - 0 = (if k = 16 then 15 else k) from by split <;> omega, this, Nat.zero_add]
      rfl
    · have hst := q6 (i - 1) (by split at hi <;> omega)
      have e1 : ((e + 1) % 16 + 16 - i) % 16 = (e + 16 - (i - 1)) % 16 := by split at hi <;> omega
      have e2 : (e + 16 - (i - 1)) % 16 ≠ (e + 1) % 16 := by split at hi <;> omega
      have e3 : (e + 16 - (i - 1)) % 16 < 16 := Nat.mod_lt _ (by decide)
      rw [e1]
      refine hst.to (by omega) (fun n m S hc => tc _ _ _ _ e3 ?_) (fun n m S hc => hc.copy h4 h6 ?_ td)
      · exact hc.ag (a4 _ _ (by omega) (by omega)) (a4 _ _ (by omega) (by omega)) (a4 _ _ (by omega) (by omega)) (fun j i _ _ => a5 _ _ (by omega))
      · intro j hj
        rw [tm _ _ hj]
        by_cases ck : k = 16
        · rw [if_pos ck] at hi
          have := b7 (16 - 1 - i) j (by rw [if_pos ck]; omega) hj
          rw [if_pos ck] at this
          rw [if_pos ck, this]
          exact congrArg (t'.2.1 234) (by omega)
        · rw [if_neg ck] at hi
          have := b7 (k + 1 - 1 - i) j (by rw [if_neg ck]; omega) hj
          rw [if_neg ck] at this
          rw [if_neg ck, this]
          exact congrArg (t'.2.1 234) (by omega)
theorem g_date {N : Nat} (h : GR N t t') (hN : N + 1 ≤ 1000) : QG (N + 1) (tX9_date t) (tX10_date t') := by
  obtain ⟨v, w, p, q, nh, nd, st, V, h⟩ := h
  obtain ⟨n, m, S, t1, t1', e1, e2, e3, e4, e5, e6, e7, e8, e9, e10⟩ := h.done hN
  obtain ⟨S1, c1, o1, t2, t2', f1, f2, f3, f4, f5, f6, f7, f8, _⟩ := e8.pass e1.2.1 (by omega)
  have f2' : tX10_passes 0 t1' = some t2' := f2
  unfold tX9_date tX10_date
  simp only [ob_s, e6, e7, e9, f1, f2']
  rw [f6.1, f6.2.2.1]
  have := pcn_le o1 6
  refine ⟨_, _, _, rfl, rfl, v, w, p, q, nh, nd, st, V, e10 _ _ _ _ _ f3 f4 ?_ ?_ (by omega) (by unfold pc; omega)⟩
  · intro j hj
    rw [f5.1]
    exact e2 j hj
  · intro d hd
    rw [f5.2]
    exact e3 d hd
/-- whether a day may be moved -/
def shf (V : Nat → Nat → Nat) (S : Nat → Nat → Int32) (nd d x : Nat) : Bool := decide (¬ S 4 d = -1) && decide (¬ S 4 d = nI x) && hol V S nd x d
theorem PR.canShift (h : PR v nh nd st V a b n m S t0 t0' t t') (hs : SK nh nd st S) {d x : Nat} (hd : d < nd) (hx : x < nh) : tX6_canShift a v (nI d) (nI x) t = some (bI (shf V S nd d x)) ∧ tX10_mayMove (nI b) (nI d) (nI x) t' = some (bI (shf V S nd d x)) := by
  have h6 := h.h6
  have h4 := h.h4
  have hb := h.b1
  have gm := NN.m1 (by omega) (hs d hd).2.2.1
  unfold tX6_canShift tX10_mayMove
  simp (disch := omega) only [tA_e, tA_l, tW0_e, tW0_l, nN_al, nN_la, nN_ad, nN_lm, nN_ml, nN_le, nN_lt, nN_eq, nN_lel, nN_lle, nN_ltl, nN_llt, nN_eql, nN_rm, nN_dv, ob_s, ob_2, ob_3, ite_true, ite_false, not_true_eq_false, not_false_eq_true, ite_self, eq_self, Nat.add_zero, h.c4, h.m4, gm.1, h.holds hx hd, h.doesHold hx hd, bI_0]
  unfold shf bI
  by_cases c1 : S 4 d = -1
  · simp only [tA_e, tA_l, tW0_e, tW0_l, nN_al, nN_la, nN_ad, nN_lm, nN_ml, nN_le, nN_lt, nN_eq, nN_lel, nN_lle, nN_ltl, nN_llt, nN_eql, nN_rm, nN_dv, ob_s, ob_2, ob_3, ite_true, ite_false, not_true_eq_false, not_false_eq_true, ite_self, eq_self, Nat.add_zero, decide_true, decide_false, decide_not, Bool.not_true, Bool.not_false, Bool.true_and, Bool.false_and, Bool.and_true, Bool.and_false, Bool.or_true, Bool.true_or, Bool.or_false, Bool.false_or, if_true, if_false, Bool.false_eq_true, z01_0, z01_1, eq_true c1, and_self]
  · by_cases c2 : S 4 d = nI x
    · have c3 : ¬ nI x = (-1 : Int32) := nN_ne1 (by omega)
      simp only [tA_e, tA_l, tW0_e, tW0_l, nN_al, nN_la, nN_ad, nN_lm, nN_ml, nN_le, nN_lt, nN_eq, nN_lel, nN_lle, nN_ltl, nN_llt, nN_eql, nN_rm, nN_dv, ob_s, ob_2, ob_3, ite_true, ite_false, not_true_eq_false, not_false_eq_true, ite_self, eq_self, Nat.add_zero, decide_true, decide_false, decide_not, Bool.not_true, Bool.not_false, Bool.true_and, Bool.false_and, Bool.and_true, Bool.and_false, Bool.or_true, Bool.true_or, Bool.or_false, Bool.false_or, if_true, if_false, Bool.false_eq_true, z01_0, z01_1, c2, c3, and_self]
    · cases hol V S nd x d
      · simp only [tA_e, tA_l, tW0_e, tW0_l, nN_al, nN_la, nN_ad, nN_lm, nN_ml, nN_le, nN_lt, nN_eq, nN_lel, nN_lle, nN_ltl, nN_llt, nN_eql, nN_rm, nN_dv, ob_s, ob_2, ob_3, ite_true, ite_false, not_true_eq_false, not_false_eq_true, ite_self, eq_self, Nat.add_zero, decide_true, decide_false, decide_not, Bool.not_true, Bool.not_false, Bool.true_and, Bool.false_and, Bool.and_true, Bool.and_false, Bool.or_true, Bool.true_or, Bool.or_false, Bool.false_or, if_true, if_false, Bool.false_eq_true, z01_0, z01_1, c1, c2, and_self]
      · simp only [tA_e, tA_l, tW0_e, tW0_l, nN_al, nN_la, nN_ad, nN_lm, nN_ml, nN_le, nN_lt, nN_eq, nN_lel, nN_lle, nN_ltl, nN_llt, nN_eql, nN_rm, nN_dv, ob_s, ob_2, ob_3, ite_true, ite_false, not_true_eq_false, not_false_eq_true, ite_self, eq_self, Nat.add_zero, decide_true, decide_false, decide_not, Bool.not_true, Bool.not_false, Bool.true_and, Bool.false_and, Bool.and_true, Bool.and_false, Bool.or_true, Bool.true_or, Bool.or_false, Bool.false_or, if_true, if_false, Bool.false_eq_true, z01_0, z01_1, c1, c2, and_self, Bool.true_eq_false]
theorem QG.no {N : Nat} {w p q : Nat} (h : GP v w p q nh nd st V N t t') (hN : N + 1 ≤ 1000) {x : Int32} : QG (N + 1) (some (x, t)) (some (x, uI t' 218 0 0)) := ⟨_, _, _, rfl, rfl, v, w, p, q, nh, nd, st, V, (h.q YQ.rf (ZQ.th (.inl rfl))).mo (by omega) hN⟩
theorem g_move {N : Nat} (h : GR N t t') (hN : N + 1 ≤ 1000) (x y : Int32) : QG (N + 1) (tX9_move x y t) (tX10_move x y t') := by
  obtain ⟨v, w, p, q, nh, nd, st, V, h⟩ := h
  have h6 := h.h6
  have h4 := h.h4
  obtain ⟨n, m, S, t1, t1', e1, e2, e3, e4, e5, e6, e7, e8, e9, e10⟩ := h.done hN
  unfold tX9_move tX10_move
  simp only [ob_s, e1.isDay, e1.isDay', e1.isHouse, e1.isHouse', bI_0]
  cases hi : inr x nd
  · simp only [tA_e, tA_l, tW0_e, tW0_l, nN_al, nN_la, nN_ad, nN_lm, nN_ml, nN_le, nN_lt, nN_eq, nN_lel, nN_lle, nN_ltl, nN_llt, nN_eql, nN_rm, nN_dv, ob_s, ob_2, ob_3, ite_true, ite_false, not_true_eq_false, not_false_eq_true, ite_self, eq_self, Nat.add_zero, decide_true, decide_false, decide_not, Bool.not_true, Bool.not_false, Bool.true_and, Bool.false_and, Bool.and_true, Bool.and_false, Bool.or_true, Bool.true_or, Bool.or_false, Bool.false_or, if_true, if_false, Bool.false_eq_true, z01_0, z01_1]
    exact QG.no h hN
  · obtain ⟨d, hd, rfl⟩ := inr_t hi
    cases hi2 : inr y nh
    · simp only [tA_e, tA_l, tW0_e, tW0_l, nN_al, nN_la, nN_ad, nN_lm, nN_ml, nN_le, nN_lt, nN_eq, nN_lel, nN_lle, nN_ltl, nN_llt, nN_eql, nN_rm, nN_dv, ob_s, ob_2, ob_3, ite_true, ite_false, not_true_eq_false, not_false_eq_true, ite_self, eq_self, Nat.add_zero, decide_true, decide_false, decide_not, Bool.not_true, Bool.not_false, Bool.true_and, Bool.false_and, Bool.and_true, Bool.and_false, Bool.or_true, Bool.true_or, Bool.or_false, Bool.false_or, if_true, if_false, Bool.false_eq_true, z01_0, z01_1, Bool.true_eq_false]
      exact QG.no h hN
    · obtain ⟨j, hj, rfl⟩ := inr_t hi2
      obtain ⟨f1, f2⟩ := e1.1.canShift e1.2.1 hd hj
      have f2' : tX10_mayMove 0 (nI d) (nI j) (uI t' 218 0 0) = some (bI (shf V S nd d j)) := f2
      have rv := e1.2.2
      simp only [tA_e, tA_l, tW0_e, tW0_l, nN_al, nN_la, nN_ad, nN_lm, nN_ml, nN_le, nN_lt, nN_eq, nN_lel, nN_lle, nN_ltl, nN_llt, nN_eql, nN_rm, nN_dv, ob_s, ob_2, ob_3, ite_true, ite_false, not_true_eq_false, not_false_eq_true, ite_self, eq_self, Nat.add_zero, decide_true, decide_false, decide_not, Bool.not_true, Bool.not_false, Bool.true_and, Bool.false_and, Bool.and_true, Bool.and_false, Bool.or_true, Bool.true_or, Bool.or_false, Bool.false_or, if_true, if_false, Bool.false_eq_true, z01_0, z01_1, Bool.true_eq_false, rv, f1, f2', bI_0]
      cases shf V S nd d j
      · simp only [tA_e, tA_l, tW0_e, tW0_l, nN_al, nN_la, nN_ad, nN_lm, nN_ml, nN_le, nN_lt, nN_eq, nN_lel, nN_lle, nN_ltl, nN_llt, nN_eql, nN_rm, nN_dv, ob_s, ob_2, ob_3, ite_true, ite_false, not_true_eq_false, not_false_eq_true, ite_self, eq_self, Nat.add_zero, decide_true, decide_false, decide_not, Bool.not_true, Bool.not_false, Bool.true_and, Bool.false_and, Bool.and_true, Bool.and_false, Bool.or_true, Bool.true_or, Bool.or_false, Bool.false_or, if_true, if_false, Bool.false_eq_true, z01_0, z01_1]
        exact QG.no h hN
      · have g := e8.w4 (x := nI j) hd
        rw [show 0 + 6 + d = 6 + d from by omega] at g
        unfold tX6_shift
        simp (disch := omega) only [tA_e, tA_l, tW0_e, tW0_l, nN_al, nN_la, nN_ad, nN_lm, nN_ml, nN_le, nN_lt, nN_eq, nN_lel, nN_lle, nN_ltl, nN_llt, nN_eql, nN_rm, nN_dv, ob_s, ob_2, ob_3, ite_true, ite_false, not_true_eq_false, not_false_eq_true, ite_self, eq_self, Nat.add_zero, decide_true, decide_false, decide_not, Bool.not_true, Bool.not_false, Bool.true_and, Bool.false_and, Bool.and_true, Bool.and_false, Bool.or_true, Bool.true_or, Bool.or_false, Bool.false_or, if_true, if_false, Bool.false_eq_true, z01_0, z01_1, Bool.true_eq_false, e6, e7]
        refine ⟨_, _, _, rfl, rfl, v, w, p, q, nh, nd, st, V, e10 _ _ _ _ _ g (e1.2.1.w4 (.inr ⟨j, hj, rfl⟩)) ?_ ?_ (by omega) (by omega)⟩
        · intro i hi
          rw [up2_o (by decide)]
          exact e2 i hi
        · intro i hi
          rw [up2_o (by decide)]
          exact e3 i hi
theorem g_send {N : Nat} (h : GR N t t') (hN : N + 1 ≤ 1000) (x : Int32) : QG (N + 1) (tX9_send x t) (tX10_send x t') := by
  obtain ⟨v, w, p, q, nh, nd, st, V, h⟩ := h
  have h6 := h.h6
  have h4 := h.h4
  obtain ⟨n, m, S, t1, t1', e1, e2, e3, e4, e5, e6, e7, e8, e9, e10⟩ := h.done hN
  unfold tX9_send tX10_send
  simp only [ob_s, e1.isDay, e1.isDay', bI_0]
  cases hi : inr x nd
  · simp only [tA_e, tA_l, tW0_e, tW0_l, nN_al, nN_la, nN_ad, nN_lm, nN_ml, nN_le, nN_lt, nN_eq, nN_lel, nN_lle, nN_ltl, nN_llt, nN_eql, nN_rm, nN_dv, ob_s, ob_2, ob_3, ite_true, ite_false, not_true_eq_false, not_false_eq_true, ite_self, eq_self, Nat.add_zero, decide_true, decide_false, decide_not, Bool.not_true, Bool.not_false, Bool.true_and, Bool.false_and, Bool.and_true, Bool.and_false, Bool.or_true, Bool.true_or, Bool.or_false, Bool.false_or, if_true, if_false, Bool.false_eq_true, z01_0, z01_1]
    exact QG.no h hN
  · obtain ⟨d, hd, rfl⟩ := inr_t hi
    have gm := NN.m1 (by omega) (e1.2.1 d hd).2.2.1
    obtain ⟨l1, l2, l3⟩ := e8.leave hd
    have l2' : tX10_leaves 0 (nI d) t1' = _ := l2
    simp (disch := omega) only [tA_e, tA_l, tW0_e, tW0_l, nN_al, nN_la, nN_ad, nN_lm, nN_ml, nN_le, nN_lt, nN_eq, nN_lel, nN_lle, nN_ltl, nN_llt, nN_eql, nN_rm, nN_dv, ob_s, ob_2, ob_3, ite_true, ite_false, not_true_eq_false, not_false_eq_true, ite_self, eq_self, Nat.add_zero, decide_true, decide_false, decide_not, Bool.not_true, Bool.not_false, Bool.true_and, Bool.false_and, Bool.and_true, Bool.and_false, Bool.or_true, Bool.true_or, Bool.or_false, Bool.false_or, if_true, if_false, Bool.false_eq_true, z01_0, z01_1, Bool.true_eq_false, e1.c4 hd, e1.m4 hd, gm.2, e6, e7, l1, l2']
    by_cases c : S 4 d = -1
    · simp only [tA_e, tA_l, tW0_e, tW0_l, nN_al, nN_la, nN_ad, nN_lm, nN_ml, nN_le, nN_lt, nN_eq, nN_lel, nN_lle, nN_ltl, nN_llt, nN_eql, nN_rm, nN_dv, ob_s, ob_2, ob_3, ite_true, ite_false, not_true_eq_false, not_false_eq_true, ite_self, eq_self, Nat.add_zero, decide_true, decide_false, decide_not, Bool.not_true, Bool.not_false, Bool.true_and, Bool.false_and, Bool.and_true, Bool.and_false, Bool.or_true, Bool.true_or, Bool.or_false, Bool.false_or, if_true, if_false, Bool.false_eq_true, z01_0, z01_1, eq_true c]
      exact QG.no h hN
    · simp only [tA_e, tA_l, tW0_e, tW0_l, nN_al, nN_la, nN_ad, nN_lm, nN_ml, nN_le, nN_lt, nN_eq, nN_lel, nN_lle, nN_ltl, nN_llt, nN_eql, nN_rm, nN_dv, ob_s, ob_2, ob_3, ite_true, ite_false, not_true_eq_false, not_false_eq_true, ite_self, eq_self, Nat.add_zero, decide_true, decide_false, decide_not, Bool.not_true, Bool.not_false, Bool.true_and, Bool.false_and, Bool.and_true, Bool.and_false, Bool.or_true, Bool.true_or, Bool.or_false, Bool.false_or, if_true, if_false, Bool.false_eq_true, z01_0, z01_1, c]
      refine ⟨_, _, _, rfl, rfl, v, w, p, q, nh, nd, st, V, e10 _ _ _ _ _ l3 (e1.2.1.lv e8.s1.1) ?_ ?_ (by omega) (by omega)⟩
      · intro i hi
        rw [(NX.lv NX.rf).1]
        exact e2 i hi
      · intro i hi
        rw [(NX.lv NX.rf).2]
        exact e3 i hi
theorem g_build {N : Nat} (h : GR N t t') (hN : N + 1 ≤ 1000) (x : Int32) : QG (N + 1) (tX9_build x t) (tX10_build x t') := by
  obtain ⟨v, w, p, q, nh, nd, st, V, h⟩ := h
  have h6 := h.h6
  have h4 := h.h4
  obtain ⟨n, m, S, t1, t1', e1, e2, e3, e4, e5, e6, e7, e8, e9, e10⟩ := h.done hN
  unfold tX9_build tX10_build
  simp only [ob_s, e1.isHouse, e1.isHouse', bI_0]
  cases hi : inr x nh
  · simp only [tA_e, tA_l, tW0_e, tW0_l, nN_al, nN_la, nN_ad, nN_lm, nN_ml, nN_le, nN_lt, nN_eq, nN_lel, nN_lle, nN_ltl, nN_llt, nN_eql, nN_rm, nN_dv, ob_s, ob_2, ob_3, ite_true, ite_false, not_true_eq_false, not_false_eq_true, ite_self, eq_self, Nat.add_zero, decide_true, decide_false, decide_not, Bool.not_true, Bool.not_false, Bool.true_and, Bool.false_and, Bool.and_true, Bool.and_false, Bool.or_true, Bool.true_or, Bool.or_false, Bool.false_or, if_true, if_false, Bool.false_eq_true, z01_0, z01_1]
    exact QG.no h hN
  · obtain ⟨j, hj, rfl⟩ := inr_t hi
    obtain ⟨k, hk, hk2⟩ := e2 j hj
    have g1 : t1.2.1 4 j = nI k := (e8.c1 hj).trans hk2
    have g2 : t1'.2.1 234 (2 + j) = nI k := by
      have := e8.m1 hj
      rw [show 0 + 2 + j = 2 + j from by omega] at this
      exact this.trans hk2
    have g := e8.w1 (x := nI (k + 1)) hj
    rw [show 0 + 2 + j = 2 + j from by omega] at g
    have g3 : (uA t1 4 j (nI (k + 1))).2.1 4 j = nI (k + 1) := by rw [uA_2, if_pos ⟨rfl, rfl⟩]
    have g4 : (uA t1' 234 (2 + j) (nI (k + 1))).2.1 234 (2 + j) = nI (k + 1) := by rw [uA_2, if_pos ⟨rfl, rfl⟩]
    simp (disch := omega) only [tA_e, tA_l, tW0_e, tW0_l, nN_al, nN_la, nN_ad, nN_lm, nN_ml, nN_le, nN_lt, nN_eq, nN_lel, nN_lle, nN_ltl, nN_llt, nN_eql, nN_rm, nN_dv, ob_s, ob_2, ob_3, ite_true, ite_false, not_true_eq_false, not_false_eq_true, ite_self, eq_self, Nat.add_zero, decide_true, decide_false, decide_not, Bool.not_true, Bool.not_false, Bool.true_and, Bool.false_and, Bool.and_true, Bool.and_false, Bool.or_true, Bool.true_or, Bool.or_false, Bool.false_or, if_true, if_false, Bool.false_eq_true, z01_0, z01_1, Bool.true_eq_false, e1.c1 hj, e1.m1 hj, hk2, e6, e7, g1, g2, g3, g4]
    by_cases c : k = 9
    · have c2 : ¬ k < 9 := by omega
      simp only [tA_e, tA_l, tW0_e, tW0_l, nN_al, nN_la, nN_ad, nN_lm, nN_ml, nN_le, nN_lt, nN_eq, nN_lel, nN_lle, nN_ltl, nN_llt, nN_eql, nN_rm, nN_dv, ob_s, ob_2, ob_3, ite_true, ite_false, not_true_eq_false, not_false_eq_true, ite_self, eq_self, Nat.add_zero, decide_true, decide_false, decide_not, Bool.not_true, Bool.not_false, Bool.true_and, Bool.false_and, Bool.and_true, Bool.and_false, Bool.or_true, Bool.true_or, Bool.or_false, Bool.false_or, if_true, if_false, Bool.false_eq_true, z01_0, z01_1, c, c2]
      exact QG.no h hN
    · have c2 : k < 9 := by omega
      simp only [tA_e, tA_l, tW0_e, tW0_l, nN_al, nN_la, nN_ad, nN_lm, nN_ml, nN_le, nN_lt, nN_eq, nN_lel, nN_lle, nN_ltl, nN_llt, nN_eql, nN_rm, nN_dv, ob_s, ob_2, ob_3, ite_true, ite_false, not_true_eq_false, not_false_eq_true, ite_self, eq_self, Nat.add_zero, decide_true, decide_false, decide_not, Bool.not_true, Bool.not_false, Bool.true_and, Bool.false_and, Bool.and_true, Bool.and_false, Bool.or_true, Bool.true_or, Bool.or_false, Bool.false_or, if_true, if_false, Bool.false_eq_true, z01_0, z01_1, c, eq_true c2]
      refine ⟨_, _, _, rfl, rfl, v, w, p, q, nh, nd, st, V, e10 _ _ _ _ _ g (e1.2.1.w6 (.inr rfl)) ?_ ?_ (by omega) (by omega)⟩
      · intro i hi
        by_cases ci : i = j
        · rw [ci, up2_s]
          exact ⟨k + 1, by omega, rfl⟩
        · rw [up2_d ci]
          exact e2 i hi
      · intro i hi
        rw [up2_o (by decide)]
        exact e3 i hi
theorem g_undo {N : Nat} (h : GR N t t') (hN : N + 1 ≤ 1000) : QG (N + 1) (tX9_undo t) (tX10_undo t') := by
  obtain ⟨v, w, p, q, nh, nd, st, V, h⟩ := h
  have h6 := h.h6
  have h4 := h.h4
  have h0 := h
  obtain ⟨k1, k2, k3, k4, k5, ⟨e, k, q1, q2, q3, q4, q5, q6⟩, k7⟩ := h
  have q5' : (uI t' 218 0 0).1 218 25 = nI k := by rw [uI_o (by omega)]; exact q5
  unfold tX9_undo tX10_undo tX0_bringBack
  by_cases c : k = 0
  · subst c
    simp (disch := omega) only [tA_e, tA_l, tW0_e, tW0_l, nN_al, nN_la, nN_ad, nN_lm, nN_ml, nN_le, nN_lt, nN_eq, nN_lel, nN_lle, nN_ltl, nN_llt, nN_eql, nN_rm, nN_dv, ob_s, ob_2, ob_3, ite_true, ite_false, not_true_eq_false, not_false_eq_true, ite_self, eq_self, Nat.add_zero, decide_true, decide_false, decide_not, Bool.not_true, Bool.not_false, Bool.true_and, Bool.false_and, Bool.and_true, Bool.and_false, Bool.or_true, Bool.true_or, Bool.or_false, Bool.false_or, if_true, if_false, Bool.false_eq_true, z01_0, z01_1, q4, q5']
    exact QG.no h0 hN
  · obtain ⟨T, c1, c2, c3⟩ := cp_e (a := 19 + 7 * e) (a2 := 3) (t := t) (by omega)
    have w1 : T.1 17 1 = nI e := (c2.1 17 1 (by omega)).trans q3
    have w2 : T.1 17 2 = nI k := (c2.1 17 2 (by omega)).trans q4
    obtain ⟨t3, f1, f2, f3⟩ := copies_e (p := 47 * (5 + (k - 1))) (q := 0) (N := 30) (t := uI (uI t' 218 0 0) 218 25 (nI (k - 1))) (by omega) (by omega) (by omega)
    have f1' : tX10_copies (nI (47 * (5 + (k - 1)))) 0 30 (uI (uI t' 218 0 0) 218 25 (nI (k - 1))) = some t3 := f1
    have w3 : (uI T 17 1 (nI ((e + 16 - 1) % 16))).1 17 2 = nI k := by rw [uI_o (by omega)]; exact w2
    simp (disch := omega) only [tA_e, tA_l, tW0_e, tW0_l, nN_al, nN_la, nN_ad, nN_lm, nN_ml, nN_le, nN_lt, nN_eq, nN_lel, nN_lle, nN_ltl, nN_llt, nN_eql, nN_rm, nN_dv, ob_s, ob_2, ob_3, ite_true, ite_false, not_true_eq_false, not_false_eq_true, ite_self, eq_self, Nat.add_zero, decide_true, decide_false, decide_not, Bool.not_true, Bool.not_false, Bool.true_and, Bool.false_and, Bool.and_true, Bool.and_false, Bool.or_true, Bool.true_or, Bool.or_false, Bool.false_or, if_true, if_false, Bool.false_eq_true, z01_0, z01_1, q3, q4, q5', c, tQ_e, c1, w1, nN_sl, w3, uI_s, f1']
    have hy : YK t (uI (uI T 17 1 (nI ((e + 16 - 1) % 16))) 17 2 (nI (k - 1))) := by
      refine ⟨fun b j h1 _ h3 => ?_, fun b i h1 _ _ _ _ => ?_, ?_, ?_⟩
      · rw [uI_o (by omega), uI_o (by omega), c2.1 b j h1]
      · exact c2.2.1 b i (by omega)
      · show T.2.2.1 = _
        rw [c2.2.2]
      · show T.2.2.2.2 = _
        rw [c2.2.2]
    have hz : ZK t' t3 := by
      refine ⟨fun b j h1 => ?_, fun b i h1 _ _ h5 => ?_, ?_, ?_⟩
      · rw [f2.1, uI_o (by omega), uI_o (by omega)]
      · rw [f2.2.1 _ _ (by omega)]
        rfl
      · rw [f2.2.2]
        rfl
      · rw [f2.2.2]
        rfl
    have tc : ∀ n m S, CS nh nd 3 n m S T → CS nh nd 3 n m S (uI (uI T 17 1 (nI ((e + 16 - 1) % 16))) 17 2 (nI (k - 1))) := by
      intro n m S hc
      exact hc.ag (by rw [uI_o (by omega), uI_o (by omega)]) (by rw [uI_o (by omega), uI_o (by omega)]) (by rw [uI_o (by omega), uI_o (by omega)]) (fun _ _ _ _ => rfl)
    have hst := q6 0 (by omega)
    rw [show (e + 16 - 0) % 16 = e from by omega, show k - 1 - 0 = k - 1 from by omega] at hst
    refine ⟨_, _, _, rfl, rfl, v, w, p, q, nh, nd, st, V, h0.k hy hz ?_ ?_ (by omega) hN⟩
    · refine hst.to (by omega) (fun n m S hc => tc _ _ _ (c3 nh nd n m S h4 h6 hc)) (fun n m S hc => hc.copy h4 h6 ?_ ?_)
      · intro j hj
        rw [f3 j hj]
        rfl
      · intro j
        rw [f2.2.1 _ _ (by omega)]
        rfl
    · refine ⟨(e + 16 - 1) % 16, k - 1, Nat.mod_lt _ (by decide), by omega, ?_, ?_, ?_, ?_⟩
      · rw [uI_o (by omega), uI_s]
      · rw [uI_s]
      · rw [f2.1, uI_s]
      · intro i hi
        have hst := q6 (i + 1) (by omega)
        have e1 : ((e + 16 - 1) % 16 + 16 - i) % 16 = (e + 16 - (i + 1)) % 16 := by omega
        rw [e1, show k - 1 - 1 - i = k - 1 - (i + 1) from by omega]
        have e3 : (e + 16 - (i + 1)) % 16 < 16 := Nat.mod_lt _ (by decide)
        refine hst.to (by omega) (fun n m S hc => ?_) (fun n m S hc => hc.copy h4 h6 ?_ ?_)
        · exact hc.ag (by rw [uI_o (by omega), uI_o (by omega), c2.1 _ _ (by omega)]) (by rw [uI_o (by omega), uI_o (by omega), c2.1 _ _ (by omega)]) (by rw [uI_o (by omega), uI_o (by omega), c2.1 _ _ (by omega)]) (fun j i _ _ => c2.2.1 _ _ (by omega))
        · intro j hj
          rw [f2.2.1 _ _ (by omega)]
          rfl
        · intro j
          rw [f2.2.1 _ _ (by omega)]
          rfl
end
