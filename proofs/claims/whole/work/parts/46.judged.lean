/-! ===== PURE: how a vale begins; judged ===== -/
section
variable {v nh nd st a b n m : Nat} {V : Nat → Nat → Nat} {S : Nat → Nat → Int32} {t0 t0' t t' : tS}
theorem fiL {x : Int32} {N : Nat} (hN : N < 100) : ∀ (k i f : Nat) (T : tS), i + k = N → k < f → ∃ T1, tJ7_fill_53178_L5 f a N x (nI i) (nI N) T = some T1 ∧ T1.1 = T.1 ∧ (∀ b j, ¬ (b = a ∧ i ≤ j ∧ j < N) → T1.2.1 b j = T.2.1 b j) ∧ (∀ j, i ≤ j → j < N → T1.2.1 a j = x) ∧ T1.2.2 = T.2.2 := by
  intro k
  induction k with
  | zero =>
    intro i f T hi hf
    obtain ⟨f, rfl⟩ : ∃ g, f = g + 1 := ⟨f - 1, by omega⟩
    obtain rfl : i = N := by omega
    rw [tJ7_fill_53178_L5]
    simp (disch := omega) only [tA_e, tA_l, tW0_e, tW0_l, nN_al, nN_la, nN_ad, nN_lm, nN_ml, nN_le, nN_lt, nN_eq, nN_lel, nN_lle, nN_ltl, nN_llt, nN_eql, nN_rm, nN_dv, ob_s, ob_2, ob_3, ite_true, ite_false, not_true_eq_false, not_false_eq_true, ite_self, eq_self, Nat.add_zero, Nat.le_refl]
    exact ⟨_, rfl, rfl, fun _ _ _ => rfl, fun j _ _ => by omega, rfl⟩
  | succ k ih =>
    intro i f T hi hf
    obtain ⟨f, rfl⟩ : ∃ g, f = g + 1 := ⟨f - 1, by omega⟩
    have c1 : ¬ N ≤ i := by omega
    rw [tJ7_fill_53178_L5]
    simp (disch := omega) only [tA_e, tA_l, tW0_e, tW0_l, nN_al, nN_la, nN_ad, nN_lm, nN_ml, nN_le, nN_lt, nN_eq, nN_lel, nN_lle, nN_ltl, nN_llt, nN_eql, nN_rm, nN_dv, ob_s, ob_2, ob_3, ite_true, ite_false, not_true_eq_false, not_false_eq_true, ite_self, eq_self, Nat.add_zero, c1]
    obtain ⟨T1, e1, e2, e3, e4, e5⟩ := ih (i + 1) f (uA T a i x) (by omega) (by omega)
    refine ⟨T1, e1, e2, ?_, ?_, e5⟩
    · intro c j hc
      rw [e3 c j (by omega), uA_2, if_neg (by omega)]
    · intro j h1 h2
      by_cases c : j = i
      · subst c
        rw [e3 _ _ (by omega), uA_2, if_pos ⟨rfl, rfl⟩]
      · exact e4 j (by omega) h2
theorem fi_e {x : Int32} {N : Nat} (hN : N < 100) : ∃ T1, tJ7_fill_53178 a N x t = some T1 ∧ T1.1 = t.1 ∧ (∀ b j, ¬ (b = a ∧ j < N) → T1.2.1 b j = t.2.1 b j) ∧ (∀ j, j < N → T1.2.1 a j = x) ∧ T1.2.2 = t.2.2 := by
  obtain ⟨T1, e1, e2, e3, e4, e5⟩ := fiL (a := a) (x := x) hN N 0 4000 t (by omega) (by omega)
  refine ⟨T1, ?_, e2, fun b j hb => e3 b j (by omega), fun j hj => e4 j (by omega) hj, e5⟩
  unfold tJ7_fill_53178
  have e1' : tJ7_fill_53178_L5 4000 a N x 0 (Int32.ofNat N) t = some T1 := e1
  rw [e1']
  rfl
/-- as a vale begins -/
def S0 (V : Nat → Nat → Nat) : Nat → Nat → Int32 := fun k j => if k = 1 then nI (V 2 j) else if k = 2 then nI (V 7 j) else if k = 3 then nI (V 8 j) else if k = 4 then -1 else 0
theorem S0.sk (h : VK nh nd st V) : SK nh nd st (S0 V) := by
  intro d hd
  obtain ⟨h1, h2, h3, h4, h5⟩ := h.2.2.2.2.2.1 d hd
  exact ⟨⟨_, h3, rfl⟩, ⟨_, by omega, rfl⟩, .inl rfl, ⟨0, h.2.2.1, rfl⟩⟩
theorem S0.b10 (h : VK nh nd st V) : ∀ j, j < nh → NN (S0 V 1 j) 10 := by
  intro j hj
  have := (h.2.2.2.2.1 j hj)
  exact ⟨_, by omega, rfl⟩
theorem begin_e (h : CV v nh nd st V t) (h4 : nh ≤ 4) (h6 : nd ≤ 6) (hv : a + 7 ≤ v) : ∃ t1, tX6_begin a v t = some t1 ∧ CS nh nd a 0 0 (S0 V) t1 ∧ CG a t t1 := by
  obtain ⟨h1, h2, h3, g2, g3, g5, g6, g7, g8, g9, g10⟩ := h
  obtain ⟨T1, a1, a2, a3, a4, a5⟩ := fi_e (a := a + 4) (x := (-1 : Int32)) (N := 6) (t := uF (uF (uF t (a + 1) (va_cpy (t.2.1 (v + 2)) (t.2.1 (a + 1)) 0 0 4)) (a + 2) (va_cpy ((uF t (a + 1) (va_cpy (t.2.1 (v + 2)) (t.2.1 (a + 1)) 0 0 4)).2.1 (v + 7)) ((uF t (a + 1) (va_cpy (t.2.1 (v + 2)) (t.2.1 (a + 1)) 0 0 4)).2.1 (a + 2)) 0 0 6)) (a + 3) (va_cpy ((uF (uF t (a + 1) (va_cpy (t.2.1 (v + 2)) (t.2.1 (a + 1)) 0 0 4)) (a + 2) (va_cpy ((uF t (a + 1) (va_cpy (t.2.1 (v + 2)) (t.2.1 (a + 1)) 0 0 4)).2.1 (v + 7)) ((uF t (a + 1) (va_cpy (t.2.1 (v + 2)) (t.2.1 (a + 1)) 0 0 4)).2.1 (a + 2)) 0 0 6)).2.1 (v + 8)) ((uF (uF t (a + 1) (va_cpy (t.2.1 (v + 2)) (t.2.1 (a + 1)) 0 0 4)) (a + 2) (va_cpy ((uF t (a + 1) (va_cpy (t.2.1 (v + 2)) (t.2.1 (a + 1)) 0 0 4)).2.1 (v + 7)) ((uF t (a + 1) (va_cpy (t.2.1 (v + 2)) (t.2.1 (a + 1)) 0 0 4)).2.1 (a + 2)) 0 0 6)).2.1 (a + 3)) 0 0 6)) (by omega)
  obtain ⟨T2, b1, b2, b3, b4, b5⟩ := fi_e (a := a + 5) (x := (0 : Int32)) (N := 6) (t := T1) (by omega)
  obtain ⟨T3, c1, c2, c3, c4, c5⟩ := fi_e (a := a + 6) (x := (0 : Int32)) (N := 6) (t := T2) (by omega)
  unfold tX6_begin
  simp only [tWC_4, tWC_6, ob_s, a1, b1, c1]
  refine ⟨_, rfl, ⟨?_, ?_, ?_, ?_, ?_, ?_, ?_, ?_, ?_⟩, ?_, ?_, ?_⟩
  · rw [uI_o (by omega), uI_o (by omega), uI_s]
    rfl
  · rw [uI_o (by omega), uI_s]
    rfl
  · rw [uI_s]
    rfl
  · intro j hj
    show T3.2.1 _ _ = _
    rw [c3 _ _ (by omega), b3 _ _ (by omega), a3 _ _ (by omega)]
    simp (disch := omega) only [uF_s, uF_n, cpy_l]
    exact g2 j hj
  · intro j hj
    show T3.2.1 _ _ = _
    rw [c3 _ _ (by omega), b3 _ _ (by omega), a3 _ _ (by omega)]
    simp (disch := omega) only [uF_s, uF_n, cpy_l]
    exact g7 j hj
  · intro j hj
    show T3.2.1 _ _ = _
    rw [c3 _ _ (by omega), b3 _ _ (by omega), a3 _ _ (by omega)]
    simp (disch := omega) only [uF_s, uF_n, cpy_l]
    exact g8 j hj
  · intro j hj
    show T3.2.1 _ _ = _
    rw [c3 _ _ (by omega), b3 _ _ (by omega), a4 j (by omega)]
    rfl
  · intro j hj
    show T3.2.1 _ _ = _
    rw [c3 _ _ (by omega), b4 j (by omega)]
    rfl
  · intro j hj
    show T3.2.1 _ _ = _
    rw [c4 j (by omega)]
    rfl
  · intro b k hb
    rw [uI_o (by omega), uI_o (by omega), uI_o (by omega), c2, b2, a2]
    rfl
  · intro b i hb
    show T3.2.1 _ _ = _
    rw [c3 _ _ (by omega), b3 _ _ (by omega), a3 _ _ (by omega)]
    simp (disch := omega) only [uF_n]
  · show T3.2.2 = _
    rw [c5, b5, a5]
    rfl
theorem sl2 (hb : b + 47 ≤ 1081) : ∀ (k i f : Nat) (T : tS), i + k = 30 → k < f → ∃ T1, tX10_starts_L2 f (nI b) (nI i) T = some T1 ∧ MG (b + i) (b + 30) T T1 ∧ ∀ j, i ≤ j → j < 30 → T1.2.1 234 (b + j) = 0 := by
  intro k
  induction k with
  | zero =>
    intro i f T hi hf
    obtain ⟨f, rfl⟩ : ∃ g, f = g + 1 := ⟨f - 1, by omega⟩
    obtain rfl : i = 30 := by omega
    rw [tX10_starts_L2]
    simp (disch := omega) only [tA_e, tA_l, tW0_e, tW0_l, nN_al, nN_la, nN_ad, nN_lm, nN_ml, nN_le, nN_lt, nN_eq, nN_lel, nN_lle, nN_ltl, nN_llt, nN_eql, nN_rm, nN_dv, ob_s, ob_2, ob_3, ite_true, ite_false, not_true_eq_false, not_false_eq_true, ite_self, eq_self, Nat.add_zero, Nat.le_refl]
    exact ⟨_, rfl, ⟨rfl, fun _ _ _ => rfl, rfl⟩, fun j _ _ => by omega⟩
  | succ k ih =>
    intro i f T hi hf
    obtain ⟨f, rfl⟩ : ∃ g, f = g + 1 := ⟨f - 1, by omega⟩
    have c1 : ¬ 30 ≤ i := by omega
    rw [tX10_starts_L2]
    simp (disch := omega) only [tA_e, tA_l, tW0_e, tW0_l, nN_al, nN_la, nN_ad, nN_lm, nN_ml, nN_le, nN_lt, nN_eq, nN_lel, nN_lle, nN_ltl, nN_llt, nN_eql, nN_rm, nN_dv, ob_s, ob_2, ob_3, ite_true, ite_false, not_true_eq_false, not_false_eq_true, ite_self, eq_self, Nat.add_zero, c1]
    obtain ⟨T1, e1, e2, e3⟩ := ih (i + 1) f (uA T 234 (b + i) 0) (by omega) (by omega)
    refine ⟨T1, e1, ⟨e2.1, ?_, e2.2.2⟩, ?_⟩
    · intro c j hc
      rw [e2.2.1 c j (by omega), uA_2, if_neg (by omega)]
    · intro j h1 h2
      by_cases c : j = i
      · subst c
        rw [e2.2.1 _ _ (by omega), uA_2, if_pos ⟨rfl, rfl⟩]
      · exact e3 j (by omega) h2
theorem sl25 (hb : b + 47 ≤ 1081) (h4 : nh ≤ 4) : ∀ (k i f : Nat) (T : tS), MV nh nd st V T → i + k = nh → k < f → ∃ T1, tX10_starts_L25 f (nI b) (nI i) T = some T1 ∧ MG (b + 2 + i) (b + 2 + nh) T T1 ∧ ∀ j, i ≤ j → j < nh → T1.2.1 234 (b + 2 + j) = nI (V 2 j) := by
  intro k
  induction k with
  | zero =>
    intro i f T h hi hf
    obtain ⟨f, rfl⟩ : ∃ g, f = g + 1 := ⟨f - 1, by omega⟩
    obtain rfl : i = nh := by omega
    rw [tX10_starts_L25]
    simp (disch := omega) only [tA_e, tA_l, tW0_e, tW0_l, nN_al, nN_la, nN_ad, nN_lm, nN_ml, nN_le, nN_lt, nN_eq, nN_lel, nN_lle, nN_ltl, nN_llt, nN_eql, nN_rm, nN_dv, ob_s, ob_2, ob_3, ite_true, ite_false, not_true_eq_false, not_false_eq_true, ite_self, eq_self, Nat.add_zero, h.houses, Nat.le_refl]
    exact ⟨_, rfl, ⟨rfl, fun _ _ _ => rfl, rfl⟩, fun j _ _ => by omega⟩
  | succ k ih =>
    intro i f T h hi hf
    obtain ⟨f, rfl⟩ : ∃ g, f = g + 1 := ⟨f - 1, by omega⟩
    have c1 : ¬ nh ≤ i := by omega
    rw [tX10_starts_L25]
    simp (disch := omega) only [tA_e, tA_l, tW0_e, tW0_l, nN_al, nN_la, nN_ad, nN_lm, nN_ml, nN_le, nN_lt, nN_eq, nN_lel, nN_lle, nN_ltl, nN_llt, nN_eql, nN_rm, nN_dv, ob_s, ob_2, ob_3, ite_true, ite_false, not_true_eq_false, not_false_eq_true, ite_self, eq_self, Nat.add_zero, h.houses, c1, h.houseOf0 h4]
    have h1 : MV nh nd st V (uA T 234 (b + 2 + i) (nI (V 2 i))) := h.ag (fun j => by rw [uA_2, if_neg (by omega)])
    obtain ⟨T1, e1, e2, e3⟩ := ih (i + 1) f _ h1 (by omega) (by omega)
    refine ⟨T1, e1, ⟨e2.1, ?_, e2.2.2⟩, ?_⟩
    · intro c j hc
      rw [e2.2.1 c j (by omega), uA_2, if_neg (by omega)]
    · intro j h1 h2
      by_cases c : j = i
      · subst c
        rw [e2.2.1 _ _ (by omega), uA_2, if_pos ⟨rfl, rfl⟩]
      · exact e3 j (by omega) h2
theorem sl57 (hb : b + 47 ≤ 1081) (h6 : nd ≤ 6) : ∀ (k i f : Nat) (T : tS), MV nh nd st V T → i + k = 6 → k < f → ∃ T1, tX10_starts_L57 f (nI b) (nI i) T = some T1 ∧ T1.1 = T.1 ∧ (∀ c j, ¬ (c = 234 ∧ ((b + 6 + i ≤ j ∧ j < b + 12) ∨ (b + 18 + i ≤ j ∧ j < b + 24))) → T1.2.1 c j = T.2.1 c j) ∧ T1.2.2 = T.2.2 ∧ (∀ j, i ≤ j → j < 6 → T1.2.1 234 (b + 6 + j) = -1) ∧ ∀ j, i ≤ j → j < nd → T1.2.1 234 (b + 18 + j) = nI (V 8 j) := by
  intro k
  induction k with
  | zero =>
    intro i f T h hi hf
    obtain ⟨f, rfl⟩ : ∃ g, f = g + 1 := ⟨f - 1, by omega⟩
    obtain rfl : i = 6 := by omega
    rw [tX10_starts_L57]
    simp (disch := omega) only [tA_e, tA_l, tW0_e, tW0_l, nN_al, nN_la, nN_ad, nN_lm, nN_ml, nN_le, nN_lt, nN_eq, nN_lel, nN_lle, nN_ltl, nN_llt, nN_eql, nN_rm, nN_dv, ob_s, ob_2, ob_3, ite_true, ite_false, not_true_eq_false, not_false_eq_true, ite_self, eq_self, Nat.add_zero, Nat.le_refl]
    exact ⟨_, rfl, rfl, fun _ _ _ => rfl, rfl, fun j _ _ => by omega, fun j _ _ => by omega⟩
  | succ k ih =>
    intro i f T h hi hf
    obtain ⟨f, rfl⟩ : ∃ g, f = g + 1 := ⟨f - 1, by omega⟩
    have c1 : ¬ 6 ≤ i := by omega
    rw [tX10_starts_L57]
    have h1 : MV nh nd st V (uA T 234 (b + 6 + i) (-1)) := h.ag (fun j => by rw [uA_2, if_neg (by omega)])
    have key : ∀ x : Int32, (i < nd → x = nI (V 8 i)) → ∃ T1, tX10_starts_L57 f (nI b) (nI (i + 1)) (uA (uA T 234 (b + 6 + i) (-1)) 234 (b + 18 + i) x) = some T1 ∧ T1.1 = T.1 ∧ (∀ c j, ¬ (c = 234 ∧ ((b + 6 + i ≤ j ∧ j < b + 12) ∨ (b + 18 + i ≤ j ∧ j < b + 24))) → T1.2.1 c j = T.2.1 c j) ∧ T1.2.2 = T.2.2 ∧ (∀ j, i ≤ j → j < 6 → T1.2.1 234 (b + 6 + j) = -1) ∧ ∀ j, i ≤ j → j < nd → T1.2.1 234 (b + 18 + j) = nI (V 8 j) := by
      intro x hx
      have hV2 : MV nh nd st V (uA (uA T 234 (b + 6 + i) (-1)) 234 (b + 18 + i) x) := h1.ag (fun j => by rw [uA_2, if_neg (by omega)])
      obtain ⟨T1, e1, e2, e3, e4, e5, e6⟩ := ih (i + 1) f _ hV2 (by omega) (by omega)
      refine ⟨T1, e1, e2, ?_, e4, ?_, ?_⟩
      · intro c j hc
        rw [e3 c j (by omega), uA_2, if_neg (by omega), uA_2, if_neg (by omega)]
      · intro j h1 h2
        by_cases c : j = i
        · subst c
          rw [e3 _ _ (by omega), uA_2, if_neg (by omega), uA_2, if_pos ⟨rfl, rfl⟩]
        · exact e5 j (by omega) h2
      · intro j h1 h2
        by_cases c : j = i
        · subst c
          rw [e3 _ _ (by omega), uA_2, if_pos ⟨rfl, rfl⟩, hx h2]
        · exact e6 j (by omega) h2
    simp (disch := omega) only [tA_e, tA_l, tW0_e, tW0_l, nN_al, nN_la, nN_ad, nN_lm, nN_ml, nN_le, nN_lt, nN_eq, nN_lel, nN_lle, nN_ltl, nN_llt, nN_eql, nN_rm, nN_dv, ob_s, ob_2, ob_3, ite_true, ite_false, not_true_eq_false, not_false_eq_true, ite_self, eq_self, Nat.add_zero, h1.days, c1]
    by_cases c2 : nd ≤ i
    · simp (disch := omega) only [tA_e, tA_l, tW0_e, tW0_l, nN_al, nN_la, nN_ad, nN_lm, nN_ml, nN_le, nN_lt, nN_eq, nN_lel, nN_lle, nN_ltl, nN_llt, nN_eql, nN_rm, nN_dv, ob_s, ob_2, ob_3, ite_true, ite_false, not_true_eq_false, not_false_eq_true, ite_self, eq_self, Nat.add_zero, eq_true c2]
      exact key 0 (fun z => by omega)
    · simp (disch := omega) only [tA_e, tA_l, tW0_e, tW0_l, nN_al, nN_la, nN_ad, nN_lm, nN_ml, nN_le, nN_lt, nN_eq, nN_lel, nN_lle, nN_ltl, nN_llt, nN_eql, nN_rm, nN_dv, ob_s, ob_2, ob_3, ite_true, ite_false, not_true_eq_false, not_false_eq_true, ite_self, eq_self, Nat.add_zero, c2, h1.dayOf3 h6 (show i < nd by omega)]
      exact key _ (fun _ => rfl)
theorem starts_e (h : MV nh nd st V t') (h4 : nh ≤ 4) (h6 : nd ≤ 6) (hb : b + 47 ≤ 1081) (h7 : ∀ d, d < nd → t'.2.1 236 d = nI (V 7 d)) : ∃ t1, tX10_starts (nI b) t' = some t1 ∧ MS nh nd b 0 0 (S0 V) t1 ∧ MG b (b + 30) t' t1 := by
  obtain ⟨T1, a1, a2, a3⟩ := sl2 (b := b) hb 30 0 4000 t' (by omega) (by omega)
  have h1 : MV nh nd st V T1 := h.ag (fun j => a2.2.1 _ _ (by omega))
  obtain ⟨T2, b1, b2, b3⟩ := sl25 (b := b) hb h4 nh 0 4000 T1 h1 (by omega) (by omega)
  have h2 : MV nh nd st V T2 := h1.ag (fun j => b2.2.1 _ _ (by omega))
  obtain ⟨T3, c1, c2, c3, c4, c5, c6⟩ := sl57 (b := b) hb h6 6 0 4000 T2 h2 (by omega) (by omega)
  rw [show nI 0 = (0 : Int32) from rfl] at a1 b1 c1
  refine ⟨T3, ?_, ⟨?_, ?_, ?_, ?_, ?_, ?_, ?_, ?_⟩, ?_, ?_, ?_⟩
  · unfold tX10_starts
    simp only [a1, b1, c1, ob_s]
  · rw [c3 _ _ (by omega), b2.2.1 _ _ (by omega)]
    exact a3 0 (by omega) (by omega)
  · rw [c3 _ _ (by omega), b2.2.1 _ _ (by omega)]
    exact a3 1 (by omega) (by omega)
  · intro j hj
    rw [c3 _ _ (by omega)]
    exact b3 j (by omega) hj
  · intro j hj
    rw [c3 _ _ (by omega), b2.2.1 _ _ (by omega), a2.2.1 _ _ (by omega)]
    exact h7 j hj
  · intro j hj
    exact c6 j (by omega) hj
  · intro j hj
    exact c5 j (by omega) (by omega)
  · intro j hj
    rw [c3 _ _ (by omega), b2.2.1 _ _ (by omega), Nat.add_assoc]
    exact a3 (12 + j) (by omega) (by omega)
  · intro j hj
    rw [c3 _ _ (by omega), b2.2.1 _ _ (by omega), Nat.add_assoc]
    exact a3 (24 + j) (by omega) (by omega)
  · rw [c2, b2.1, a2.1]
  · intro c j hc
    rw [c3 _ _ (by omega), b2.2.1 _ _ (by omega), a2.2.1 _ _ (by omega)]
  · rw [c4, b2.2.2, a2.2.2]
theorem PQ.w4 (h : PQ v nh nd st V n m S t0 t0' t t') {j : Nat} {x : Int32} (hj : j < nd) (hx : x = -1 ∨ NN x nh) : PQ v nh nd st V n m (up2 S 4 j x) t0 t0' (uA t 14 j x) (uA t' 234 (993 + j) x) := ⟨h.1.w4 hj, h.2.1.w4 hx, h.2.2⟩
set_option maxHeartbeats 8000000 in
theorem PQ.juL {p L : Nat} {a1 : Int32} (hp : p = 210 ∨ p = 214) (hL : L ≤ 40) (q0 : t0.2.2.2.2 0 11 = p) (q1 : t0.1 p 3 = nI L) (q2 : t0'.2.1 231 0 = nI L) (q3 : ∀ i, i < L → LN nh nd (t0.2.1 (p + 1) i) (t0.2.1 (p + 2) i) (t0.2.1 (p + 3) i) (t0'.2.1 231 (1 + 3 * i)) (t0'.2.1 231 (2 + 3 * i)) (t0'.2.1 231 (3 + 3 * i))) : ∀ (k i f f' n m : Nat) (x y : Int32) (S : Nat → Nat → Int32) (t t' : tS), PQ v nh nd st V n m S t0 t0' t t' → (x = -1 ∨ NN x 41) → (y = -1 ∨ NN y 41) → n + k < 900000 → m + 6 * k < 900000 → i + k = L → k < f → k < f' → ∃ r s n1 m1 S1 t1 t1', tX9_judged_L30 f a1 x y (nI i) t = some (r, s, t1) ∧ tX10_judged_L31 f' a1 x y (nI i) t' = some (r, s, t1') ∧ PQ v nh nd st V n1 m1 S1 t0 t0' t1 t1' := by
  intro k
  induction k with
  | zero =>
    intro i f f' n m x y S t t' h hx hy hn hm hi hf hf'
    have hvv := h.1.2.1
    obtain ⟨f, rfl⟩ : ∃ g, f = g + 1 := ⟨f - 1, by omega⟩
    obtain ⟨f', rfl⟩ : ∃ g, f' = g + 1 := ⟨f' - 1, by omega⟩
    obtain rfl : i = L := by omega
    obtain ⟨f1, f2⟩ := h.fr
    have r0 : t.2.2.2.2 0 11 = p := by rw [f1.2.2]; exact q0
    have r1 : t.1 p 3 = nI i := (f1.1 _ _ (by omega)).trans q1
    have r2 : t'.2.1 231 0 = nI i := (f2.2.1 _ _ (by omega) (by omega) (by omega)).trans q2
    rw [tX9_judged_L30, tX10_judged_L31]
    rw [r0, r1, if_pos (Int32.le_refl _), show (0 : Int32) = nI 0 from rfl, tA_e (by omega) (by omega), ob_s, r2, if_pos (Int32.le_refl _)]
    exact ⟨_, _, _, _, _, _, _, rfl, rfl, h⟩
  | succ k ih =>
    intro i f f' n m x y S t t' h hx hy hn hm hi hf hf'
    have hvv := h.1.2.1
    have h6 := h.1.h6
    have h4 := h.1.h4
    obtain ⟨f, rfl⟩ : ∃ g, f = g + 1 := ⟨f - 1, by omega⟩
    obtain ⟨f', rfl⟩ : ∃ g, f' = g + 1 := ⟨f' - 1, by omega⟩
    have c1 : ¬ L ≤ i := by omega
    obtain ⟨f1, f2⟩ := h.fr
    have r0 : t.2.2.2.2 0 11 = p := by rw [f1.2.2]; exact q0
    have r1 : t.1 p 3 = nI L := (f1.1 _ _ (by omega)).trans q1
    have r2 : t'.2.1 231 0 = nI L := (f2.2.1 _ _ (by omega) (by omega) (by omega)).trans q2
    have ln := q3 i (by omega)
    rw [← f1.2.1 (p + 1) i (by omega) (by omega), ← f1.2.1 (p + 2) i (by omega) (by omega), ← f1.2.1 (p + 3) i (by omega) (by omega), ← f2.2.1 231 (1 + 3 * i) (by omega) (by omega) (by omega), ← f2.2.1 231 (2 + 3 * i) (by omega) (by omega) (by omega), ← f2.2.1 231 (3 + 3 * i) (by omega) (by omega) (by omega)] at ln
    have gx := (NN.m1 (by omega) hx).2
    have gy := (NN.m1 (by omega) hy).2
    have nx : (if x = -1 then nI i else x) = -1 ∨ NN (if x = -1 then nI i else x) 41 := by
      split
      · exact .inr ⟨i, by omega, rfl⟩
      · exact hx
    have ny : (if y = -1 then nI i else y) = -1 ∨ NN (if y = -1 then nI i else y) 41 := by
      split
      · exact .inr ⟨i, by omega, rfl⟩
      · exact hy
    have zx : (if ¬ x = -1 then some x else some (nI i)) = some (if x = -1 then nI i else x) := by
      by_cases c : x = -1
      · simp only [eq_true c, tA_e, tA_l, tW0_e, tW0_l, nN_al, nN_la, nN_ad, nN_lm, nN_ml, nN_le, nN_lt, nN_eq, nN_lel, nN_lle, nN_ltl, nN_llt, nN_eql, nN_rm, nN_dv, ob_s, ob_2, ob_3, ite_true, ite_false, not_true_eq_false, not_false_eq_true, ite_self, eq_self, Nat.add_zero]
      · simp only [c, tA_e, tA_l, tW0_e, tW0_l, nN_al, nN_la, nN_ad, nN_lm, nN_ml, nN_le, nN_lt, nN_eq, nN_lel, nN_lle, nN_ltl, nN_llt, nN_eql, nN_rm, nN_dv, ob_s, ob_2, ob_3, ite_true, ite_false, not_true_eq_false, not_false_eq_true, ite_self, eq_self, Nat.add_zero]
    have zy : (if ¬ y = -1 then some y else some (nI i)) = some (if y = -1 then nI i else y) := by
      by_cases c : y = -1
      · simp only [eq_true c, tA_e, tA_l, tW0_e, tW0_l, nN_al, nN_la, nN_ad, nN_lm, nN_ml, nN_le, nN_lt, nN_eq, nN_lel, nN_lle, nN_ltl, nN_llt, nN_eql, nN_rm, nN_dv, ob_s, ob_2, ob_3, ite_true, ite_false, not_true_eq_false, not_false_eq_true, ite_self, eq_self, Nat.add_zero]
      · simp only [c, tA_e, tA_l, tW0_e, tW0_l, nN_al, nN_la, nN_ad, nN_lm, nN_ml, nN_le, nN_lt, nN_eq, nN_lel, nN_lle, nN_ltl, nN_llt, nN_eql, nN_rm, nN_dv, ob_s, ob_2, ob_3, ite_true, ite_false, not_true_eq_false, not_false_eq_true, ite_self, eq_self, Nat.add_zero]
    rw [tX9_judged_L30, tX10_judged_L31]
    unfold tX3_carryOut
    rw [r0, h.rv]
    simp (maxSteps := 2000000) (disch := omega) only [tA_e, tA_l, nN_la, nN_lm, nN_al, nN_le, ob_s, r1, r2, c1, ite_false, gx, gy, zx, zy]
    rcases ln with ⟨l1, l2⟩ | ⟨e, g, l0, l00, l1, l2, l3, l4, l5, l6⟩ | ⟨e, l0, l1, l2, l3, l4⟩ | ⟨g, l0, l1, l2, l3, l4⟩
    · obtain ⟨S1, c2, o1, t1, t1', e1, e2, e3, e4, ⟨k1, k2, k3, k4⟩, e6, e7, _⟩ := h.pass (by omega)
      rw [h.rv] at e1
      have hc := e3.co
      have hc0 := h.co
      have p6 : pc o1 ≤ 6 := pcn_le o1 6
      have pp := pc_p e7
      simp (maxSteps := 2000000) (decide := true) (disch := omega) only [tA_e, tA_l, tW0_e, tW0_l, nN_al, nN_la, nN_ad, nN_lm, nN_ml, nN_le, nN_lt, nN_eq, nN_lel, nN_lle, nN_ltl, nN_llt, nN_eql, nN_rm, nN_dv, ob_s, ob_2, ob_3, ite_true, ite_false, not_true_eq_false, not_false_eq_true, ite_self, eq_self, Nat.add_zero, l1, l2, e1, e2, k4, hc, hc0]
      by_cases c : o1 = 0
      · have c3 : m + pc o1 ≤ m := by rw [c, pc_0]; omega
        simp only [tA_e, tA_l, tW0_e, tW0_l, nN_al, nN_la, nN_ad, nN_lm, nN_ml, nN_le, nN_lt, nN_eq, nN_lel, nN_lle, nN_ltl, nN_llt, nN_eql, nN_rm, nN_dv, ob_s, ob_2, ob_3, ite_true, ite_false, not_true_eq_false, not_false_eq_true, ite_self, eq_self, Nat.add_zero, eq_true c, eq_true c3]
        exact ih (i + 1) f f' _ _ _ _ _ _ _ e3 hx hy (by omega) (by omega) (by omega) (by omega) (by omega)
      · have c3 : ¬ m + pc o1 ≤ m := by
          intro z
          exact c (pp.1 (by omega))
        simp only [tA_e, tA_l, tW0_e, tW0_l, nN_al, nN_la, nN_ad, nN_lm, nN_ml, nN_le, nN_lt, nN_eq, nN_lel, nN_lle, nN_ltl, nN_llt, nN_eql, nN_rm, nN_dv, ob_s, ob_2, ob_3, ite_true, ite_false, not_true_eq_false, not_false_eq_true, ite_self, eq_self, Nat.add_zero, c, c3]
        exact ih (i + 1) f f' _ _ _ _ _ _ _ e3 hx ny (by omega) (by omega) (by omega) (by omega) (by omega)
    · obtain ⟨u1, u2⟩ := h.1.canShift h.2.1 l0 l00
      have u2' : tX10_mayMove 987 (nI e) (nI g) t' = some (bI (shf V S nd e g)) := u2
      unfold tX6_shift
      simp (maxSteps := 2000000) (decide := true) (disch := omega) only [tA_e, tA_l, tW0_e, tW0_l, nN_al, nN_la, nN_ad, nN_lm, nN_ml, nN_le, nN_lt, nN_eq, nN_lel, nN_lle, nN_ltl, nN_llt, nN_eql, nN_rm, nN_dv, ob_s, ob_2, ob_3, ite_true, ite_false, not_true_eq_false, not_false_eq_true, ite_self, eq_self, Nat.add_zero, l1, l2, l3, l4, l5, l6, u1, u2', bI_0]
      cases shf V S nd e g
      · simp (maxSteps := 2000000) (decide := true) (disch := omega) only [tA_e, tA_l, tW0_e, tW0_l, nN_al, nN_la, nN_ad, nN_lm, nN_ml, nN_le, nN_lt, nN_eq, nN_lel, nN_lle, nN_ltl, nN_llt, nN_eql, nN_rm, nN_dv, ob_s, ob_2, ob_3, ite_true, ite_false, not_true_eq_false, not_false_eq_true, ite_self, eq_self, Nat.add_zero, Int32.le_refl]
        exact ih (i + 1) f f' _ _ _ _ _ _ _ h nx hy (by omega) (by omega) (by omega) (by omega) (by omega)
      · have w := h.w4 l0 (x := nI g) (.inr ⟨g, l00, rfl⟩)
        simp (maxSteps := 2000000) (decide := true) (disch := omega) only [tA_e, tA_l, tW0_e, tW0_l, nN_al, nN_la, nN_ad, nN_lm, nN_ml, nN_le, nN_lt, nN_eq, nN_lel, nN_lle, nN_ltl, nN_llt, nN_eql, nN_rm, nN_dv, ob_s, ob_2, ob_3, ite_true, ite_false, not_true_eq_false, not_false_eq_true, ite_self, eq_self, Nat.add_zero, uA_1, Int32.le_refl]
        exact ih (i + 1) f f' _ _ _ _ _ _ _ w hx hy (by omega) (by omega) (by omega) (by omega) (by omega)
    · obtain ⟨u1, u2, u3⟩ := h.1.leave l0
      have u2' : tX10_leaves 987 (nI e) t' = _ := u2
      have gm := NN.m1 (by omega) (h.2.1 e l0).2.2.1
      simp (maxSteps := 2000000) (decide := true) (disch := omega) only [tA_e, tA_l, tW0_e, tW0_l, nN_al, nN_la, nN_ad, nN_lm, nN_ml, nN_le, nN_lt, nN_eq, nN_lel, nN_lle, nN_ltl, nN_llt, nN_eql, nN_rm, nN_dv, ob_s, ob_2, ob_3, ite_true, ite_false, not_true_eq_false, not_false_eq_true, ite_self, eq_self, Nat.add_zero, l1, l2, l3, l4, h.c4 l0, h.m4 l0, gm.1, u1, u2']
      by_cases c : S 4 e = -1
      · simp (maxSteps := 2000000) (decide := true) (disch := omega) only [tA_e, tA_l, tW0_e, tW0_l, nN_al, nN_la, nN_ad, nN_lm, nN_ml, nN_le, nN_lt, nN_eq, nN_lel, nN_lle, nN_ltl, nN_llt, nN_eql, nN_rm, nN_dv, ob_s, ob_2, ob_3, ite_true, ite_false, not_true_eq_false, not_false_eq_true, ite_self, eq_self, Nat.add_zero, eq_true c, Int32.le_refl]
        exact ih (i + 1) f f' _ _ _ _ _ _ _ h nx hy (by omega) (by omega) (by omega) (by omega) (by omega)
      · simp (maxSteps := 2000000) (decide := true) (disch := omega) only [tA_e, tA_l, tW0_e, tW0_l, nN_al, nN_la, nN_ad, nN_lm, nN_ml, nN_le, nN_lt, nN_eq, nN_lel, nN_lle, nN_ltl, nN_llt, nN_eql, nN_rm, nN_dv, ob_s, ob_2, ob_3, ite_true, ite_false, not_true_eq_false, not_false_eq_true, ite_self, eq_self, Nat.add_zero, c, uA_1, Int32.le_refl]
        exact ih (i + 1) f f' _ _ _ _ _ _ _ ⟨u3, h.2.1.lv h.1.s1.1, h.2.2⟩ hx hy (by omega) (by omega) (by omega) (by omega) (by omega)
    · have w := h.w1 l0 (x := S 1 g + 1)
      have e9 : S 1 g < (9 : Int32) ↔ ¬ (9 : Int32) ≤ S 1 g := by rw [Int32.lt_iff_toInt_lt, Int32.le_iff_toInt_le]; omega
      simp (maxSteps := 2000000) (decide := true) (disch := omega) only [tA_e, tA_l, tW0_e, tW0_l, nN_al, nN_la, nN_ad, nN_lm, nN_ml, nN_le, nN_lt, nN_eq, nN_lel, nN_lle, nN_ltl, nN_llt, nN_eql, nN_rm, nN_dv, ob_s, ob_2, ob_3, ite_true, ite_false, not_true_eq_false, not_false_eq_true, ite_self, eq_self, Nat.add_zero, l1, l2, l3, l4, h.c1 l0, h.m1 l0, e9]
      by_cases c : (9 : Int32) ≤ S 1 g
      · simp (maxSteps := 2000000) (decide := true) (disch := omega) only [tA_e, tA_l, tW0_e, tW0_l, nN_al, nN_la, nN_ad, nN_lm, nN_ml, nN_le, nN_lt, nN_eq, nN_lel, nN_lle, nN_ltl, nN_llt, nN_eql, nN_rm, nN_dv, ob_s, ob_2, ob_3, ite_true, ite_false, not_true_eq_false, not_false_eq_true, ite_self, eq_self, Nat.add_zero, eq_true c, Int32.le_refl]
        exact ih (i + 1) f f' _ _ _ _ _ _ _ h nx hy (by omega) (by omega) (by omega) (by omega) (by omega)
      · simp (maxSteps := 2000000) (decide := true) (disch := omega) only [tA_e, tA_l, tW0_e, tW0_l, nN_al, nN_la, nN_ad, nN_lm, nN_ml, nN_le, nN_lt, nN_eq, nN_lel, nN_lle, nN_ltl, nN_llt, nN_eql, nN_rm, nN_dv, ob_s, ob_2, ob_3, ite_true, ite_false, not_true_eq_false, not_false_eq_true, ite_self, eq_self, Nat.add_zero, c, uA_1, Int32.le_refl]
        exact ih (i + 1) f f' _ _ _ _ _ _ _ w hx hy (by omega) (by omega) (by omega) (by omega) (by omega)
theorem q_judged {w p q N : Nat} (h : GP v w p q nh nd st V N t t') (x : Int32) : QA (tX9_judged x t) (tX10_judged x t') t t' := by
  have h4 := h.h4
  have h6 := h.h6
  have hv := h.qr.1
  have b := h.2.2.2.1
  have told : ∀ i, i < nd → t'.2.1 236 i = nI (V 7 i) := by
    intro i hi
    obtain ⟨n, m, S, s1, s2, s3, s4, s5, s6, s7⟩ := h.2.2.2.2.1
    rw [← s5 i hi]
    exact s2.2.2.2.1 i hi
  obtain ⟨L, l1, l2, l3, l4⟩ := h.2.2.2.2.2.2.2.2.1
  obtain ⟨T, a1, a2, a3⟩ := begin_e (a := 10) b.2.2.1 h4 h6 (by omega)
  obtain ⟨T', b1, b2, b3⟩ := starts_e (b := 987) (t' := uI t' 218 0 0) b.2.2.2.1 h4 h6 (by omega) told
  have b1' : tX10_starts 987 (uI t' 218 0 0) = some T' := b1
  have hy : YQ t T := (a3.cf (v := v)).yq hv
  have hz : ZQ t' T' := (ZQ.th (.inl rfl)).tr (b3.mf.zq (by decide))
  have br := (h.q hy hz).2.2.2.1
  have rv := (h.q hy hz).2.2.1
  have pq : PQ v nh nd st V 0 0 (S0 V) T T' T T' := ⟨PR.of br a2 b2 (by omega) (by omega), S0.sk b.1, rv.1⟩
  obtain ⟨M, m1, m2, m3, m4⟩ := (h.q hy hz).2.2.2.2.2.2.2.2.1
  obtain ⟨r, s, n2, mm, S2, T2, T2', e1, e2, e3⟩ := PQ.juL (p := p) (a1 := x) (by have := h.2.1; omega) m1 rv.2.2.1 m2 m3 m4 M 0 4000 4000 0 0 (-1) (-1) (S0 V) T T' pq (.inl rfl) (.inl rfl) (by omega) (by omega) (by omega) (by omega) (by omega)
  rw [show nI 0 = (0 : Int32) from rfl] at e1 e2
  unfold tX9_judged tX10_judged
  simp only [ob_s, wi_e.1, wi_e.2, bI_0, h.2.2.1.1, a1, b1']
  cases hw : decide ((0 : Int32) ≤ x ∧ x ≤ 2)
  · simp only [tA_e, tA_l, tW0_e, tW0_l, nN_al, nN_la, nN_ad, nN_lm, nN_ml, nN_le, nN_lt, nN_eq, nN_lel, nN_lle, nN_ltl, nN_llt, nN_eql, nN_rm, nN_dv, ob_s, ob_2, ob_3, ite_true, ite_false, not_true_eq_false, not_false_eq_true, ite_self, eq_self, Nat.add_zero, decide_true, decide_false, decide_not, Bool.not_true, Bool.not_false, Bool.true_and, Bool.false_and, Bool.and_true, Bool.and_false, Bool.or_true, Bool.true_or, Bool.or_false, Bool.false_or, if_true, if_false, Bool.false_eq_true, z01_0, z01_1]
    exact QA.no
  · have fin : ∀ y : Int32, QA (some (y, T2)) (some (y, T2')) t t' := fun y => ⟨_, _, _, rfl, rfl, hy.tr (e3.fr.1.yq hv), hz.tr (e3.fr.2.zq (by decide))⟩
    simp (disch := omega) only [tA_e, tA_l, tW0_e, tW0_l, nN_al, nN_la, nN_ad, nN_lm, nN_ml, nN_le, nN_lt, nN_eq, nN_lel, nN_lle, nN_ltl, nN_llt, nN_eql, nN_rm, nN_dv, ob_s, ob_2, ob_3, ite_true, ite_false, not_true_eq_false, not_false_eq_true, ite_self, eq_self, Nat.add_zero, decide_true, decide_false, decide_not, Bool.not_true, Bool.not_false, Bool.true_and, Bool.false_and, Bool.and_true, Bool.and_false, Bool.or_true, Bool.true_or, Bool.or_false, Bool.false_or, if_true, if_false, Bool.false_eq_true, z01_0, z01_1, Bool.true_eq_false, e1, e2, e3.mo, e3.co]
    by_cases c1 : x = 0
    · simp only [tA_e, tA_l, tW0_e, tW0_l, nN_al, nN_la, nN_ad, nN_lm, nN_ml, nN_le, nN_lt, nN_eq, nN_lel, nN_lle, nN_ltl, nN_llt, nN_eql, nN_rm, nN_dv, ob_s, ob_2, ob_3, ite_true, ite_false, not_true_eq_false, not_false_eq_true, ite_self, eq_self, Nat.add_zero, eq_true c1]
      exact fin _
    · by_cases c2 : x = 1
      · simp only [tA_e, tA_l, tW0_e, tW0_l, nN_al, nN_la, nN_ad, nN_lm, nN_ml, nN_le, nN_lt, nN_eq, nN_lel, nN_lle, nN_ltl, nN_llt, nN_eql, nN_rm, nN_dv, ob_s, ob_2, ob_3, ite_true, ite_false, not_true_eq_false, not_false_eq_true, ite_self, eq_self, Nat.add_zero, c1, eq_true c2]
        exact fin _
      · simp only [tA_e, tA_l, tW0_e, tW0_l, nN_al, nN_la, nN_ad, nN_lm, nN_ml, nN_le, nN_lt, nN_eq, nN_lel, nN_lle, nN_ltl, nN_llt, nN_eql, nN_rm, nN_dv, ob_s, ob_2, ob_3, ite_true, ite_false, not_true_eq_false, not_false_eq_true, ite_self, eq_self, Nat.add_zero, c1, c2]
        exact fin _
end
