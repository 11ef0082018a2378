/-! ===== PURE: vale: what is taken over, what is kept ===== -/
section
variable {v nh nd st a b n m : Nat} {V : Nat → Nat → Nat} {S : Nat → Nat → Int32} {t0 t0' t t' : tS}
variable {c so pl bh : Nat → Nat} {L M k w : Nat}
theorem v76 : ∀ (r i f : Nat) (T : tS), i + r = 50 → r < f → ∃ T1, tX10_vale_L76 f (nI i) T = some T1 ∧ T1.1 = T.1 ∧ (∀ b j, ¬ (b = 224 ∧ i ≤ j ∧ j < 50) → T1.2.1 b j = T.2.1 b j) ∧ T1.2.2 = T.2.2 ∧ ∀ j, i ≤ j → j < 50 → T1.2.1 224 j = T.2.1 224 (50 + j) := by
  intro r
  induction r with
  | zero =>
    intro i f T hi hf
    obtain ⟨f, rfl⟩ : ∃ g, f = g + 1 := ⟨f - 1, by omega⟩
    have c1 : 50 ≤ i := by omega
    rw [tX10_vale_L76]
    simp (disch := omega) only [tA_e, tA_l, tW0_e, tW0_l, nN_al, nN_la, nN_ad, nN_lm, nN_ml, nN_le, nN_lt, nN_eq, nN_lel, nN_lle, nN_ltl, nN_llt, nN_eql, nN_rm, nN_dv, ob_s, ob_2, ob_3, ite_true, ite_false, not_true_eq_false, not_false_eq_true, ite_self, eq_self, Nat.add_zero, c1]
    exact ⟨_, rfl, rfl, fun _ _ _ => rfl, rfl, fun j _ _ => by omega⟩
  | succ r ih =>
    intro i f T hi hf
    obtain ⟨f, rfl⟩ : ∃ g, f = g + 1 := ⟨f - 1, by omega⟩
    have c1 : ¬ 50 ≤ i := by omega
    rw [tX10_vale_L76]
    simp (disch := omega) only [tA_e, tA_l, tW0_e, tW0_l, nN_al, nN_la, nN_ad, nN_lm, nN_ml, nN_le, nN_lt, nN_eq, nN_lel, nN_lle, nN_ltl, nN_llt, nN_eql, nN_rm, nN_dv, ob_s, ob_2, ob_3, ite_true, ite_false, not_true_eq_false, not_false_eq_true, ite_self, eq_self, Nat.add_zero, c1]
    obtain ⟨T1, e1, e2, e3, e4, e5⟩ := ih (i + 1) f (uA T 224 i (T.2.1 224 (50 + i))) (by omega) (by omega)
    refine ⟨T1, e1, e2, ?_, e4, ?_⟩
    · intro b j hb
      rw [e3 b j (by omega), uA_o (by omega)]
    · intro j h1 h2
      by_cases e : j = i
      · subst e
        rw [e3 _ _ (by omega), uA_s]
      · rw [e5 j (by omega) h2, uA_o (by omega)]
theorem v105 {C : Nat} (hC : C ≤ 1050) : ∀ (r i f : Nat) (T : tS), T.1 218 13 = nI C → i + r = C → r < f → ∃ T1, tX10_vale_L105 f (nI i) T = some T1 ∧ T1.1 = T.1 ∧ (∀ b j, ¬ ((b = 225 ∨ b = 226) ∧ i ≤ j ∧ j < C) → T1.2.1 b j = T.2.1 b j) ∧ T1.2.2 = T.2.2 ∧ ∀ j, i ≤ j → j < C → T1.2.1 225 j = T.2.1 225 (1100 + j) ∧ T1.2.1 226 j = T.2.1 226 (1100 + j) := by
  intro r
  induction r with
  | zero =>
    intro i f T h13 hi hf
    obtain ⟨f, rfl⟩ : ∃ g, f = g + 1 := ⟨f - 1, by omega⟩
    have c1 : C ≤ i := by omega
    rw [tX10_vale_L105, h13]
    simp (disch := omega) only [tA_e, tA_l, tW0_e, tW0_l, nN_al, nN_la, nN_ad, nN_lm, nN_ml, nN_le, nN_lt, nN_eq, nN_lel, nN_lle, nN_ltl, nN_llt, nN_eql, nN_rm, nN_dv, ob_s, ob_2, ob_3, ite_true, ite_false, not_true_eq_false, not_false_eq_true, ite_self, eq_self, Nat.add_zero, c1]
    exact ⟨_, rfl, rfl, fun _ _ _ => rfl, rfl, fun j _ _ => by omega⟩
  | succ r ih =>
    intro i f T h13 hi hf
    obtain ⟨f, rfl⟩ : ∃ g, f = g + 1 := ⟨f - 1, by omega⟩
    have c1 : ¬ C ≤ i := by omega
    rw [tX10_vale_L105, h13]
    simp (disch := omega) only [tA_e, tA_l, tW0_e, tW0_l, nN_al, nN_la, nN_ad, nN_lm, nN_ml, nN_le, nN_lt, nN_eq, nN_lel, nN_lle, nN_ltl, nN_llt, nN_eql, nN_rm, nN_dv, ob_s, ob_2, ob_3, ite_true, ite_false, not_true_eq_false, not_false_eq_true, ite_self, eq_self, Nat.add_zero, c1]
    obtain ⟨T1, e1, e2, e3, e4, e5⟩ := ih (i + 1) f (uA (uA T 225 i (T.2.1 225 (1100 + i))) 226 i ((uA T 225 i (T.2.1 225 (1100 + i))).2.1 226 (1100 + i))) h13 (by omega) (by omega)
    refine ⟨T1, e1, e2, ?_, e4, ?_⟩
    · intro b j hb
      rw [e3 b j (by omega), uA_o (by omega), uA_o (by omega)]
    · intro j h1 h2
      by_cases e : j = i
      · subst e
        rw [e3 _ _ (by omega), e3 _ _ (by omega), uA_o (by omega), uA_s, uA_s, uA_o (by omega)]
        exact ⟨rfl, rfl⟩
      · have := e5 j (by omega) h2
        rw [uA_o (by omega), uA_o (by omega), uA_o (by omega), uA_o (by omega)] at this
        exact this
theorem v153 {C : Nat} (hC : C ≤ 10) : ∀ (r i f : Nat) (T : tS), T.1 218 19 = nI C → i + r = C → r < f → ∃ T1, tX10_vale_L153 f (nI i) T = some T1 ∧ T1.1 = T.1 ∧ (∀ b j, ¬ (b = 229 ∧ i ≤ j ∧ j < C) → T1.2.1 b j = T.2.1 b j) ∧ (∀ b j, ¬ (b = 227 ∧ i ≤ j ∧ j < C) → T1.2.2.1 b j = T.2.2.1 b j) ∧ T1.2.2.2 = T.2.2.2 ∧ ∀ j, i ≤ j → j < C → T1.2.1 229 j = T.2.1 230 j ∧ T1.2.2.1 227 j = T.2.2.1 228 j := by
  intro r
  induction r with
  | zero =>
    intro i f T h13 hi hf
    obtain ⟨f, rfl⟩ : ∃ g, f = g + 1 := ⟨f - 1, by omega⟩
    have c1 : C ≤ i := by omega
    rw [tX10_vale_L153, h13]
    simp (disch := omega) only [tA_e, tA_l, tW0_e, tW0_l, nN_al, nN_la, nN_ad, nN_lm, nN_ml, nN_le, nN_lt, nN_eq, nN_lel, nN_lle, nN_ltl, nN_llt, nN_eql, nN_rm, nN_dv, ob_s, ob_2, ob_3, ite_true, ite_false, not_true_eq_false, not_false_eq_true, ite_self, eq_self, Nat.add_zero, c1]
    exact ⟨_, rfl, rfl, fun _ _ _ => rfl, fun _ _ _ => rfl, rfl, fun j _ _ => by omega⟩
  | succ r ih =>
    intro i f T h13 hi hf
    obtain ⟨f, rfl⟩ : ∃ g, f = g + 1 := ⟨f - 1, by omega⟩
    have c1 : ¬ C ≤ i := by omega
    rw [tX10_vale_L153, h13]
    simp (disch := omega) only [tA_e, tA_l, tW0_e, tW0_l, nN_al, nN_la, nN_ad, nN_lm, nN_ml, nN_le, nN_lt, nN_eq, nN_lel, nN_lle, nN_ltl, nN_llt, nN_eql, nN_rm, nN_dv, ob_s, ob_2, ob_3, ite_true, ite_false, not_true_eq_false, not_false_eq_true, ite_self, eq_self, Nat.add_zero, c1, tB_e, tWB_e]
    obtain ⟨T1, e1, e2, e3, e4, e5, e6⟩ := ih (i + 1) f (uA (uB T 227 i (T.2.2.1 228 i)) 229 i ((uB T 227 i (T.2.2.1 228 i)).2.1 230 i)) h13 (by omega) (by omega)
    refine ⟨T1, e1, e2, ?_, ?_, e5, ?_⟩
    · intro b j hb
      rw [e3 b j (by omega), uA_o (by omega)]
      rfl
    · intro b j hb
      rw [e4 b j (by omega)]
      show (uB T 227 i (T.2.2.1 228 i)).2.2.1 b j = _
      rw [uB_o (by omega)]
    · intro j h1 h2
      by_cases e : j = i
      · subst e
        rw [e3 _ _ (by omega), e4 _ _ (by omega), uA_s]
        refine ⟨rfl, ?_⟩
        show (uB T 227 j (T.2.2.1 228 j)).2.2.1 227 j = _
        rw [uB_s]
      · obtain ⟨g1, g2⟩ := e6 j (by omega) h2
        rw [g1, g2, uA_o (by omega)]
        refine ⟨rfl, ?_⟩
        show (uB T 227 i (T.2.2.1 228 i)).2.2.1 228 j = _
        rw [uB_o (by omega)]
theorem nar_30 : am_nar 3 0 = 0 := by decide
theorem b31 : ∀ (r i f : Nat) (T : tS), i + r = 4 → r < f → ∃ T1, tX10_begins_L31 f (nI i) T = some T1 ∧ T1.1 = T.1 ∧ (∀ b j, ¬ (b = 235 ∧ i ≤ j ∧ j < 4) → T1.2.1 b j = T.2.1 b j) ∧ T1.2.2 = T.2.2 ∧ ∀ j, i ≤ j → j < 4 → T1.2.1 235 j = 0 := by
  intro r
  induction r with
  | zero =>
    intro i f T hi hf
    obtain ⟨f, rfl⟩ : ∃ g, f = g + 1 := ⟨f - 1, by omega⟩
    have c1 : 4 ≤ i := by omega
    rw [tX10_begins_L31]
    simp (disch := omega) only [tA_e, tA_l, tW0_e, tW0_l, nN_al, nN_la, nN_ad, nN_lm, nN_ml, nN_le, nN_lt, nN_eq, nN_lel, nN_lle, nN_ltl, nN_llt, nN_eql, nN_rm, nN_dv, ob_s, ob_2, ob_3, ite_true, ite_false, not_true_eq_false, not_false_eq_true, ite_self, eq_self, Nat.add_zero, c1]
    exact ⟨_, rfl, rfl, fun _ _ _ => rfl, rfl, fun j _ _ => by omega⟩
  | succ r ih =>
    intro i f T hi hf
    obtain ⟨f, rfl⟩ : ∃ g, f = g + 1 := ⟨f - 1, by omega⟩
    have c1 : ¬ 4 ≤ i := by omega
    rw [tX10_begins_L31]
    simp (disch := omega) only [tA_e, tA_l, tW0_e, tW0_l, nN_al, nN_la, nN_ad, nN_lm, nN_ml, nN_le, nN_lt, nN_eq, nN_lel, nN_lle, nN_ltl, nN_llt, nN_eql, nN_rm, nN_dv, ob_s, ob_2, ob_3, ite_true, ite_false, not_true_eq_false, not_false_eq_true, ite_self, eq_self, Nat.add_zero, c1, tWA_e, nar_30]
    obtain ⟨T1, e1, e2, e3, e4, e5⟩ := ih (i + 1) f (uA T 235 i 0) (by omega) (by omega)
    refine ⟨T1, e1, e2, ?_, e4, ?_⟩
    · intro b j hb
      rw [e3 b j (by omega), uA_o (by omega)]
    · intro j h1 h2
      by_cases e : j = i
      · subst e
        rw [e3 _ _ (by omega), uA_s]
      · exact e5 j (by omega) h2
theorem s37 : ∀ (r i f : Nat) (T : tS), i + r = 4 → r < f → ∃ T1, tX9_startAnew_L37 f (nI i) T = some T1 ∧ T1.2 = T.2 ∧ (∀ b j, ¬ (j = 2 ∧ ∃ m, i ≤ m ∧ m < 4 ∧ b = 132 + 11 * m) → T1.1 b j = T.1 b j) ∧ ∀ m, i ≤ m → m < 4 → T1.1 (132 + 11 * m) 2 = 0 := by
  intro r
  induction r with
  | zero =>
    intro i f T hi hf
    obtain ⟨f, rfl⟩ : ∃ g, f = g + 1 := ⟨f - 1, by omega⟩
    have c1 : 4 ≤ i := by omega
    rw [tX9_startAnew_L37]
    simp (disch := omega) only [tA_e, tA_l, tW0_e, tW0_l, nN_al, nN_la, nN_ad, nN_lm, nN_ml, nN_le, nN_lt, nN_eq, nN_lel, nN_lle, nN_ltl, nN_llt, nN_eql, nN_rm, nN_dv, ob_s, ob_2, ob_3, ite_true, ite_false, not_true_eq_false, not_false_eq_true, ite_self, eq_self, Nat.add_zero, c1]
    exact ⟨_, rfl, rfl, fun _ _ _ => rfl, fun j _ _ => by omega⟩
  | succ r ih =>
    intro i f T hi hf
    obtain ⟨f, rfl⟩ : ∃ g, f = g + 1 := ⟨f - 1, by omega⟩
    have c1 : ¬ 4 ≤ i := by omega
    rw [tX9_startAnew_L37]
    simp (disch := omega) only [tA_e, tA_l, tW0_e, tW0_l, nN_al, nN_la, nN_ad, nN_lm, nN_ml, nN_le, nN_lt, nN_eq, nN_lel, nN_lle, nN_ltl, nN_llt, nN_eql, nN_rm, nN_dv, ob_s, ob_2, ob_3, ite_true, ite_false, not_true_eq_false, not_false_eq_true, ite_self, eq_self, Nat.add_zero, c1, tQ_e]
    obtain ⟨T1, e1, e2, e3, e4⟩ := ih (i + 1) f (uI T (132 + 11 * i) 2 0) (by omega) (by omega)
    refine ⟨T1, e1, e2, ?_, ?_⟩
    · intro b j hb
      rw [e3 b j (fun z => hb ⟨z.1, z.2.elim fun m g => ⟨m, by omega, by omega, g.2.2⟩⟩), uI_o (fun z => hb ⟨z.2, i, by omega, by omega, z.1⟩)]
    · intro m h1 h2
      by_cases e : m = i
      · subst e
        rw [e3 _ _ (fun z => z.2.elim fun m g => by omega), uI_s]
      · exact e4 m (by omega) h2
/-- what the reference changes, reading a vale in vain -/
def ZV (t t1 : tS) : Prop := (∀ b j, ¬ (b = 218 ∧ (j = 0 ∨ j = 2 ∨ j = 3 ∨ j = 7 ∨ j = 8 ∨ j = 13 ∨ j = 19 ∨ j = 20)) → t1.1 b j = t.1 b j) ∧ (∀ b i, b ≠ 220 → b ≠ 221 → ¬ (b = 224 ∧ 50 ≤ i) → ¬ ((b = 225 ∨ b = 226) ∧ 1100 ≤ i) → b ≠ 230 → t1.2.1 b i = t.2.1 b i) ∧ (∀ b i, b ≠ 222 → b ≠ 228 → t1.2.2.1 b i = t.2.2.1 b i)
theorem BR.ag2 {t1 t1' : tS} (h : BR v nh nd st V t t') (e1 : ∀ k, t1.1 v k = t.1 v k) (e2 : ∀ j i, 2 ≤ j → j ≤ 10 → t1.2.1 (v + j) i = t.2.1 (v + j) i) (e3 : t1.1 (v + 11) 2 = t.1 (v + 11) 2) (e4 : ∀ i, t1.2.1 (v + 12) i = t.2.1 (v + 12) i) (e5 : ∀ i, i < 50 → t1'.2.1 224 i = t'.2.1 224 i) (e6 : ∀ i, i ≤ 1000 → t1'.2.1 225 i = t'.2.1 225 i) (e7 : ∀ i, i ≤ 1000 → t1'.2.1 226 i = t'.2.1 226 i) : BR v nh nd st V t1 t1' := by
  have h4 := h.1.1
  have h6 := h.1.2.1
  obtain ⟨k1, k2, ⟨h1, h2, h3, h4', h5, h6', h7, h8, h9, h10, h11⟩, ⟨g1, g2, g3, g4, g5, g6, g7, g8, g9, g10⟩, k5⟩ := h
  refine ⟨k1, k2, ⟨(e1 _).trans h1, (e1 _).trans h2, (e1 _).trans h3, ?_, ?_, ?_, ?_, ?_, ?_, ?_, ?_⟩, ⟨(e5 _ (by omega)).trans g1, (e5 _ (by omega)).trans g2, (e5 _ (by omega)).trans g3, ?_, ?_, ?_, ?_, ?_, ?_, ?_⟩, ?_⟩
  · exact fun j hj => (e2 2 j (by decide) (by decide)).trans (h4' j hj)
  · exact fun j hj => (e2 3 j (by decide) (by decide)).trans (h5 j hj)
  · exact fun j hj => (e2 5 j (by decide) (by decide)).trans (h6' j hj)
  · exact fun j hj => (e2 6 j (by decide) (by decide)).trans (h7 j hj)
  · exact fun j hj => (e2 7 j (by decide) (by decide)).trans (h8 j hj)
  · exact fun j hj => (e2 8 j (by decide) (by decide)).trans (h9 j hj)
  · exact fun j hj => (e2 9 j (by decide) (by decide)).trans (h10 j hj)
  · exact fun j hj => (e2 10 j (by decide) (by decide)).trans (h11 j hj)
  · exact fun j hj => (e5 _ (by omega)).trans (g4 j hj)
  · exact fun j hj => (e5 _ (by omega)).trans (g5 j hj)
  · exact fun j hj => (e5 _ (by omega)).trans (g6 j hj)
  · exact fun j hj => (e5 _ (by omega)).trans (g7 j hj)
  · exact fun j hj => (e5 _ (by omega)).trans (g8 j hj)
  · exact fun j hj => (e5 _ (by omega)).trans (g9 j hj)
  · exact fun j hj => (e5 _ (by omega)).trans (g10 j hj)
  · rcases k5 with ⟨q1, q2⟩ | ⟨q1, q2, len, dp, q3, q4, q5, q6, q7, q8⟩
    · exact .inl ⟨(e1 _).trans q1, (e5 _ (by omega)).trans q2⟩
    · refine .inr ⟨(e1 _).trans q1, (e5 _ (by omega)).trans q2, len, dp, q3, e3.trans q4, q5, q6, (e6 _ (by omega)).trans q7, fun i hi => ?_⟩
      rw [e4, e6 _ (by omega), e7 _ (by omega)]
      exact q8 i hi
theorem GP.vl {w p q N N1 : Nat} {t1 t1' : tS} (h : GP v w p q nh nd st V N t t') (hy : VC w t t1) (hz : ZV t' t1') (ht : TP t1 t1') (hN : N ≤ N1) (hN1 : N1 ≤ 1000) : GP v w p q nh nd st V N1 t1 t1' := by
  have h4 := h.h4
  have h6 := h.h6
  have hv := h.1
  obtain ⟨k1, k2, k3, k4, k5, k6, k7, k8, k9, k10, ⟨ns, kd, k11⟩, k12, k13⟩ := h
  have fa : ∀ b k, 3 ≤ b → b < 182 → t1.1 b k = t.1 b k := fun b k h1 h2 => hy.1 b k (by omega) (by omega) (by omega)
  have fb2 : ∀ b k, 3 ≤ b → b < 182 → t1.2.1 b k = t.2.1 b k := fun b k h1 h2 => hy.2.1 b k (by omega)
  have st' : ∀ a b, 3 ≤ a → a + 7 < 182 → ST nh nd st V a b N t t' → ST nh nd st V a b N1 t1 t1' := by
    intro a b ha ha2 hs
    refine hs.to hN (fun n m S hc => hc.ag (fa _ _ (by omega) (by omega)) (fa _ _ (by omega) (by omega)) (fa _ _ (by omega) (by omega)) (fun j i _ _ => fb2 _ _ (by omega) (by omega))) (fun n m S hc => hc.copy h4 h6 (fun j hj => hz.2.1 _ _ (by omega) (by omega) (by omega) (by omega) (by omega)) (fun j => hz.2.1 _ _ (by omega) (by omega) (by omega) (by omega) (by omega)))
  have se' : ∀ a b, 3 ≤ a → a + 3 < 182 → SE nh a b t t' → SE nh a b t1 t1' := by
    intro a b ha ha2 hs
    exact hs.ag (fa _ _ (by omega) (by omega)) (fun i _ => fb2 _ _ (by omega) (by omega)) (fun i _ => fb2 _ _ (by omega) (by omega)) (fun j _ _ => hz.2.1 _ _ (by omega) (by omega) (by omega) (by omega) (by omega))
  refine ⟨k1, k2, by rw [hy.2.2.2]; exact k3, ?_, st' _ _ (by omega) (by omega) k5, ?_, ?_, se' _ _ (by omega) (by omega) k8, ?_, ht, ⟨ns, kd, ?_⟩, ?_, hN1⟩
  · exact k4.ag2 (fun k => hy.1 _ _ (by omega) (by omega) (by omega)) (fun j i _ _ => hy.2.1 _ _ (by omega)) (hy.1 _ _ (by omega) (by omega) (by omega)) (fun i => hy.2.1 _ _ (by omega)) (fun i _ => hz.2.1 _ _ (by omega) (by omega) (by omega) (by omega) (by omega)) (fun i _ => hz.2.1 _ _ (by omega) (by omega) (by omega) (by omega) (by omega)) (fun i _ => hz.2.1 _ _ (by omega) (by omega) (by omega) (by omega) (by omega))
  · exact k6.to hN (fa _ _ (by omega) (by omega)) (fa _ _ (by omega) (by omega)) (hz.1 _ _ (by omega)) (fun s r _ _ hs => st' _ _ (by omega) (by omega) hs)
  · intro m hm
    rw [fa _ _ (by omega) (by omega), hz.2.1 235 m (by omega) (by omega) (by omega) (by omega) (by omega)]
    rcases k7 m hm with g | ⟨g1, g2, g3, g4⟩
    · exact .inl g
    · exact .inr ⟨g1, g2, st' _ _ (by omega) (by omega) g3, se' _ _ (by omega) (by omega) g4⟩
  · exact k9.ag (fun k => hy.1 _ _ (by omega) (by omega) (by omega)) (fun j i _ _ => hy.2.1 _ _ (by omega)) (fun i => hz.2.1 _ _ (by omega) (by omega) (by omega) (by omega) (by omega))
  · exact k11.ag (fun i => hy.2.2.1 _ _ (by omega) (by omega)) (fun i => hy.2.2.1 _ _ (by omega) (by omega)) (hz.1 _ _ (by omega)) (fun i => hz.2.2 _ _ (by omega) (by omega)) (fun i => hz.2.1 _ _ (by omega) (by omega) (by omega) (by omega) (by omega))
  · exact k12.ag (fun i => hz.2.2 _ _ (by omega) (by omega))
end
