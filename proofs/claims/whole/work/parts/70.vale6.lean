/-! ===== PURE: a vale is read: pairs of houses, pairs of days ===== -/
section
variable {v nh nd st a b n m : Nat} {V : Nat → Nat → Nat} {S : Nat → Nat → Int32} {t0 t0' t t' : tS}
variable {c so pl bh : Nat → Nat} {L M k w : Nat}
theorem or_b {a i n : Nat} (ha : a < 2 ^ n) (hi : i < n) : a ||| 2 ^ i < 2 ^ n := Nat.or_lt_two_pow ha (Nat.pow_lt_pow_right (by decide) hi)
theorem or_t {a i x : Nat} : (a ||| 2 ^ i).testBit x = (a.testBit x || decide (i = x)) := by rw [Nat.testBit_or, Nat.testBit_two_pow]
theorem VB.lend1 {j e : Nat} {V1 : Nat → Nat → Nat} {t1 t1' : tS} (h : VB w nh nd st V t t') (hj : j < nh) (he : e < nh) (f1 : V1 3 j = V 3 j ||| 2 ^ e) (f2 : V1 3 e = V 3 e ||| 2 ^ j) (fo : ∀ a i, ¬ (a = 3 ∧ (i = j ∨ i = e)) → V1 a i = V a i) (a1 : t1.1 w 11 = t.1 w 11) (a2 : t1.1 w 12 = t.1 w 12) (a3 : t1.1 w 13 = t.1 w 13) (e1 : ∀ b i, w + 2 ≤ b → b ≤ w + 10 → ¬ (b = w + 3 ∧ (i = j ∨ i = e)) → t1.2.1 b i = t.2.1 b i) (e2 : t1.2.1 (w + 3) j = nI (V 3 j ||| 2 ^ e)) (e3 : t1.2.1 (w + 3) e = nI (V 3 e ||| 2 ^ j)) (m1 : ∀ i, i ≠ 55 + 2 * j → i ≠ 55 + 2 * e → t1'.2.1 224 i = t'.2.1 224 i) (m2 : t1'.2.1 224 (55 + 2 * j) = nI (V 3 j ||| 2 ^ e)) (m3 : t1'.2.1 224 (55 + 2 * e) = nI (V 3 e ||| 2 ^ j)) : VB w nh nd st V1 t1 t1' := by
  obtain ⟨⟨k1, k2, k3, k4, k5, k6, k7, k8⟩, ⟨v1, v2, v3, v4, v5, v6, v7, v8, v9, v10, v11⟩, ⟨r1, r2, r3, r4, r5, r6, r7, r8, r9, r10⟩, z1, z2⟩ := h
  refine ⟨⟨k1, k2, k3, k4, ?_, ?_, ?_, ?_⟩, ⟨a1.trans v1, a2.trans v2, a3.trans v3, ?_, ?_, ?_, ?_, ?_, ?_, ?_, ?_⟩, ⟨?_, ?_, ?_, ?_, ?_, ?_, ?_, ?_, ?_, ?_⟩, ?_, ?_⟩
  · intro i hi
    have g := k5 i hi
    rw [fo 2 i (by omega)]
    refine ⟨g.1, g.2.1, ?_⟩
    by_cases x1 : i = j
    · rw [x1, f1]
      exact or_b (k5 j hj).2.2 he
    · by_cases x2 : i = e
      · rw [x2, f2]
        exact or_b (k5 e he).2.2 hj
      · rw [fo 3 i (by omega)]
        exact g.2.2
  · intro d hd
    rw [fo 5 d (by omega), fo 6 d (by omega), fo 7 d (by omega), fo 8 d (by omega), fo 9 d (by omega)]
    exact k6 d hd
  · intro d d2 h1 h2
    rw [fo 9 d (by omega), fo 9 d2 (by omega)]
    exact k7 d d2 h1 h2
  · intro d hd
    rw [fo 9 d (by omega)]
    exact k8 d hd
  · intro i hi
    rw [fo 2 i (by omega), e1 _ _ (by omega) (by omega) (by omega)]
    exact v4 i hi
  · intro i hi
    by_cases x1 : i = j
    · rw [x1, f1]; exact e2
    · by_cases x2 : i = e
      · rw [x2, f2]; exact e3
      · rw [fo 3 i (by omega), e1 _ _ (by omega) (by omega) (by omega)]
        exact v5 i hi
  · intro d hd
    rw [fo 5 d (by omega), e1 _ _ (by omega) (by omega) (by omega)]
    exact v6 d hd
  · intro d hd
    rw [fo 6 d (by omega), e1 _ _ (by omega) (by omega) (by omega)]
    exact v7 d hd
  · intro d hd
    rw [fo 7 d (by omega), e1 _ _ (by omega) (by omega) (by omega)]
    exact v8 d hd
  · intro d hd
    rw [fo 8 d (by omega), e1 _ _ (by omega) (by omega) (by omega)]
    exact v9 d hd
  · intro d hd
    rw [fo 9 d (by omega), e1 _ _ (by omega) (by omega) (by omega)]
    exact v10 d hd
  · intro d hd
    rw [fo 5 d (by omega), e1 _ _ (by omega) (by omega) (by omega)]
    exact v11 d hd
  · exact (m1 _ (by omega) (by omega)).trans r1
  · exact (m1 _ (by omega) (by omega)).trans r2
  · exact (m1 _ (by omega) (by omega)).trans r3
  · intro i hi
    rw [fo 2 i (by omega)]
    exact (m1 _ (by omega) (by omega)).trans (r4 i hi)
  · intro i hi
    show t1'.2.1 224 (50 + (4 + 2 * i + 1)) = _
    rw [show 50 + (4 + 2 * i + 1) = 55 + 2 * i by omega]
    by_cases x1 : i = j
    · rw [x1, f1]; exact m2
    · by_cases x2 : i = e
      · rw [x2, f2]; exact m3
      · rw [fo 3 i (by omega), m1 _ (by omega) (by omega)]
        have := r5 i hi
        have this : t'.2.1 224 (50 + (4 + 2 * i + 1)) = _ := this
        rw [show 50 + (4 + 2 * i + 1) = 55 + 2 * i by omega] at this
        exact this
  · intro d hd
    rw [fo 5 d (by omega)]
    exact (m1 _ (by omega) (by omega)).trans (r6 d hd)
  · intro d hd
    rw [fo 6 d (by omega)]
    exact (m1 _ (by omega) (by omega)).trans (r7 d hd)
  · intro d hd
    rw [fo 7 d (by omega)]
    exact (m1 _ (by omega) (by omega)).trans (r8 d hd)
  · intro d hd
    rw [fo 8 d (by omega)]
    exact (m1 _ (by omega) (by omega)).trans (r9 d hd)
  · intro d hd
    rw [fo 9 d (by omega)]
    exact (m1 _ (by omega) (by omega)).trans (r10 d hd)
  · intro i h1 h2
    obtain ⟨g1, g2⟩ := z1 i h1 h2
    exact ⟨(e1 _ _ (by omega) (by omega) (by omega)).trans g1, (m1 _ (by omega) (by omega)).trans g2⟩
  · intro d h1 h2
    obtain ⟨g1, g2⟩ := z2 d h1 h2
    exact ⟨(e1 _ _ (by omega) (by omega) (by omega)).trans g1, (m1 _ (by omega) (by omega)).trans g2⟩
theorem VB.clash1 {j e : Nat} {V1 : Nat → Nat → Nat} {t1 t1' : tS} (h : VB w nh nd st V t t') (hj : j < nd) (he : e < nd) (hje : j ≠ e) (f1 : V1 9 j = V 9 j ||| 2 ^ e) (f2 : V1 9 e = V 9 e ||| 2 ^ j) (fo : ∀ a i, ¬ (a = 9 ∧ (i = j ∨ i = e)) → V1 a i = V a i) (a1 : t1.1 w 11 = t.1 w 11) (a2 : t1.1 w 12 = t.1 w 12) (a3 : t1.1 w 13 = t.1 w 13) (e1 : ∀ b i, w + 2 ≤ b → b ≤ w + 10 → ¬ (b = w + 9 ∧ (i = j ∨ i = e)) → t1.2.1 b i = t.2.1 b i) (e2 : t1.2.1 (w + 9) j = nI (V 9 j ||| 2 ^ e)) (e3 : t1.2.1 (w + 9) e = nI (V 9 e ||| 2 ^ j)) (m1 : ∀ i, i ≠ 66 + 5 * j → i ≠ 66 + 5 * e → t1'.2.1 224 i = t'.2.1 224 i) (m2 : t1'.2.1 224 (66 + 5 * j) = nI (V 9 j ||| 2 ^ e)) (m3 : t1'.2.1 224 (66 + 5 * e) = nI (V 9 e ||| 2 ^ j)) : VB w nh nd st V1 t1 t1' := by
  obtain ⟨⟨k1, k2, k3, k4, k5, k6, k7, k8⟩, ⟨v1, v2, v3, v4, v5, v6, v7, v8, v9, v10, v11⟩, ⟨r1, r2, r3, r4, r5, r6, r7, r8, r9, r10⟩, z1, z2⟩ := h
  have f9 : ∀ x y, x < nd → y < nd → (V1 9 x).testBit y = ((V 9 x).testBit y || (decide (x = j ∧ y = e) || decide (x = e ∧ y = j))) := by
    intro x y hx hy
    by_cases x1 : x = j
    · subst x1
      rw [f1, or_t]
      by_cases y1 : e = y
      · rw [decide_eq_true y1, decide_eq_true (show x = x ∧ y = e from ⟨rfl, y1.symm⟩)]; simp
      · rw [decide_eq_false y1, decide_eq_false (show ¬ (x = x ∧ y = e) by omega), decide_eq_false (show ¬ (x = e ∧ y = x) by omega)]; simp
    · by_cases x2 : x = e
      · subst x2
        rw [f2, or_t]
        by_cases y1 : j = y
        · rw [decide_eq_true y1, decide_eq_true (show x = x ∧ y = j from ⟨rfl, y1.symm⟩)]; simp
        · rw [decide_eq_false y1, decide_eq_false (show ¬ (x = x ∧ y = j) by omega), decide_eq_false (show ¬ (x = j ∧ y = x) by omega)]; simp
      · rw [fo 9 x (by omega), decide_eq_false (show ¬ (x = j ∧ y = e) by omega), decide_eq_false (show ¬ (x = e ∧ y = j) by omega)]; simp
  refine ⟨⟨k1, k2, k3, k4, ?_, ?_, ?_, ?_⟩, ⟨a1.trans v1, a2.trans v2, a3.trans v3, ?_, ?_, ?_, ?_, ?_, ?_, ?_, ?_⟩, ⟨?_, ?_, ?_, ?_, ?_, ?_, ?_, ?_, ?_, ?_⟩, ?_, ?_⟩
  · intro i hi
    rw [fo 2 i (by omega), fo 3 i (by omega)]
    exact k5 i hi
  · intro d hd
    have g := k6 d hd
    rw [fo 5 d (by omega), fo 6 d (by omega), fo 7 d (by omega), fo 8 d (by omega)]
    refine ⟨g.1, g.2.1, g.2.2.1, g.2.2.2.1, ?_⟩
    by_cases x1 : d = j
    · rw [x1, f1]
      exact or_b (k6 j hj).2.2.2.2 he
    · by_cases x2 : d = e
      · rw [x2, f2]
        exact or_b (k6 e he).2.2.2.2 hj
      · rw [fo 9 d (by omega)]
        exact g.2.2.2.2
  · intro x y h1 h2
    rw [f9 x y h1 h2, f9 y x h2 h1, k7 x y h1 h2, decide_eq_decide.2 (show (y = j ∧ x = e) ↔ (x = e ∧ y = j) by omega), decide_eq_decide.2 (show (y = e ∧ x = j) ↔ (x = j ∧ y = e) by omega), Bool.or_comm (decide (x = e ∧ y = j))]
  · intro d hd
    rw [f9 d d hd hd, k8 d hd, decide_eq_false (show ¬ (d = j ∧ d = e) by omega), decide_eq_false (show ¬ (d = e ∧ d = j) by omega)]
    rfl
  · intro i hi
    rw [fo 2 i (by omega), e1 _ _ (by omega) (by omega) (by omega)]
    exact v4 i hi
  · intro i hi
    rw [fo 3 i (by omega), e1 _ _ (by omega) (by omega) (by omega)]
    exact v5 i hi
  · intro d hd
    rw [fo 5 d (by omega), e1 _ _ (by omega) (by omega) (by omega)]
    exact v6 d hd
  · intro d hd
    rw [fo 6 d (by omega), e1 _ _ (by omega) (by omega) (by omega)]
    exact v7 d hd
  · intro d hd
    rw [fo 7 d (by omega), e1 _ _ (by omega) (by omega) (by omega)]
    exact v8 d hd
  · intro d hd
    rw [fo 8 d (by omega), e1 _ _ (by omega) (by omega) (by omega)]
    exact v9 d hd
  · intro i hi
    by_cases x1 : i = j
    · rw [x1, f1]; exact e2
    · by_cases x2 : i = e
      · rw [x2, f2]; exact e3
      · rw [fo 9 i (by omega), e1 _ _ (by omega) (by omega) (by omega)]
        exact v10 i hi
  · intro d hd
    rw [fo 5 d (by omega), e1 _ _ (by omega) (by omega) (by omega)]
    exact v11 d hd
  · exact (m1 _ (by omega) (by omega)).trans r1
  · exact (m1 _ (by omega) (by omega)).trans r2
  · exact (m1 _ (by omega) (by omega)).trans r3
  · intro i hi
    rw [fo 2 i (by omega)]
    exact (m1 _ (by omega) (by omega)).trans (r4 i hi)
  · intro i hi
    rw [fo 3 i (by omega)]
    exact (m1 _ (by omega) (by omega)).trans (r5 i hi)
  · intro d hd
    rw [fo 5 d (by omega)]
    exact (m1 _ (by omega) (by omega)).trans (r6 d hd)
  · intro d hd
    rw [fo 6 d (by omega)]
    exact (m1 _ (by omega) (by omega)).trans (r7 d hd)
  · intro d hd
    rw [fo 7 d (by omega)]
    exact (m1 _ (by omega) (by omega)).trans (r8 d hd)
  · intro d hd
    rw [fo 8 d (by omega)]
    exact (m1 _ (by omega) (by omega)).trans (r9 d hd)
  · intro i hi
    show t1'.2.1 224 (50 + (12 + 5 * i + 4)) = _
    rw [show 50 + (12 + 5 * i + 4) = 66 + 5 * i by omega]
    by_cases x1 : i = j
    · rw [x1, f1]; exact m2
    · by_cases x2 : i = e
      · rw [x2, f2]; exact m3
      · rw [fo 9 i (by omega), m1 _ (by omega) (by omega)]
        have := r10 i hi
        have this : t'.2.1 224 (50 + (12 + 5 * i + 4)) = _ := this
        rw [show 50 + (12 + 5 * i + 4) = 66 + 5 * i by omega] at this
        exact this
  · intro i h1 h2
    obtain ⟨g1, g2⟩ := z1 i h1 h2
    exact ⟨(e1 _ _ (by omega) (by omega) (by omega)).trans g1, (m1 _ (by omega) (by omega)).trans g2⟩
  · intro d h1 h2
    obtain ⟨g1, g2⟩ := z2 d h1 h2
    exact ⟨(e1 _ _ (by omega) (by omega) (by omega)).trans g1, (m1 _ (by omega) (by omega)).trans g2⟩
/-- two bits set, in a row of the class and in one of the reference -/
theorem vpair {b g o s n e j sb fb k1 : Nat} (hT : TK c L M so pl bh) (hw : w = 182 ∨ w = 196) (hbo : (b = 3 ∧ o = 55 ∧ s = 2 ∧ g = 4 ∧ n = nh) ∨ (b = 9 ∧ o = 66 ∧ s = 5 ∧ g = 6 ∧ n = nd)) (hb : VB w nh nd st V t t') {ns : Nat → List Nat} {kd : Nat → Nat} (hn : NM w nh nd 228 230 19 ns kd t t') (hl : VL w k sb fb t t') {T T' : tS} (cc : CO1 t T) (rr : RO1 t' T') (hp : PC c L M so pl bh k1 T T') (hk : k ≤ k1) (hj : j < n) (he : e < n) (hje : j ≠ e) : VOUT c L M so pl bh w k (am_b2 (tX7_passSign 59 (uA (uA T (w + b) j (nI (V b j ||| 2 ^ e))) (w + b) e (nI (V b e ||| 2 ^ j)))) fun x36 tt38 => (am_z01 x36).bind fun b40 => some (b40, tt38)) (tX10_takeSign 59 (uA (uA T' 224 (o + s * j) (nI (V b j ||| 2 ^ e))) 224 (o + s * e) (nI (V b e ||| 2 ^ j)))) t t' := by
  have h4 := hb.1.1
  have h6 := hb.1.2.1
  have c11 := cc.2.1
  have r11 := rr.2
  obtain ⟨TF, hTF⟩ : ∃ X, X = uA (uA T (w + b) j (nI (V b j ||| 2 ^ e))) (w + b) e (nI (V b e ||| 2 ^ j)) := ⟨_, rfl⟩
  obtain ⟨TM, hTM⟩ : ∃ X, X = uA (uA T' 224 (o + s * j) (nI (V b j ||| 2 ^ e))) 224 (o + s * e) (nI (V b e ||| 2 ^ j)) := ⟨_, rfl⟩
  rw [← hTF, ← hTM]
  have pc : PC c L M so pl bh k1 TF TM := by
    refine hp.ag (fun j _ => ?_) (fun i => ?_) ?_ ?_ ?_ (fun i => ?_) (fun i => ?_) (fun i => ?_) (fun i => ?_)
    · rw [hTF]; simp (disch := omega) only [uA_s, uA_o, uI_s, uI_o, uB_s, uB_o, uI_2, uA_1, uA_3, uB_1, uB_a, uB_3]
    · rw [hTF]; simp (disch := omega) only [uA_s, uA_o, uI_s, uI_o, uB_s, uB_o, uI_2, uA_1, uA_3, uB_1, uB_a, uB_3]
    · rw [hTF]; simp (disch := omega) only [uA_s, uA_o, uI_s, uI_o, uB_s, uB_o, uI_2, uA_1, uA_3, uB_1, uB_a, uB_3]
    all_goals rw [hTM]; simp (disch := omega) only [uA_s, uA_o, uI_s, uI_o, uB_s, uB_o, uI_2, uA_1, uA_3, uB_1, uB_a, uB_3]
  have tf1 : ∀ i, TF.1 w i = t.1 w i := fun i => by rw [hTF]; simp only [uA_1]; exact cc.1 _ _ (by omega)
  have hV : ∃ V1, VB w nh nd st V1 TF TM := by
    refine ⟨fun a i => if a = b ∧ i = j then V b j ||| 2 ^ e else if a = b ∧ i = e then V b e ||| 2 ^ j else V a i, ?_⟩
    rcases hbo with ⟨rfl, rfl, rfl, rfl, rfl⟩ | ⟨rfl, rfl, rfl, rfl, rfl⟩
    · refine hb.lend1 hj he (if_pos ⟨rfl, rfl⟩) ((if_neg (by omega)).trans (if_pos ⟨rfl, rfl⟩)) (fun a i g => (if_neg (by omega)).trans (if_neg (by omega))) (tf1 _) (tf1 _) (tf1 _) (fun b i g1 g2 g3 => ?_) ?_ ?_ (fun i g1 g2 => ?_) ?_ ?_
      · rw [hTF]; simp (disch := omega) only [uA_s, uA_o, uI_s, uI_o, uB_s, uB_o, uI_2, uA_1, uA_3, uB_1, uB_a, uB_3, c11]
      · rw [hTF]; simp (disch := omega) only [uA_s, uA_o, uI_s, uI_o, uB_s, uB_o, uI_2, uA_1, uA_3, uB_1, uB_a, uB_3]
      · rw [hTF]; simp (disch := omega) only [uA_s, uA_o, uI_s, uI_o, uB_s, uB_o, uI_2, uA_1, uA_3, uB_1, uB_a, uB_3]
      · rw [hTM]; simp (disch := omega) only [uA_s, uA_o, uI_s, uI_o, uB_s, uB_o, uI_2, uA_1, uA_3, uB_1, uB_a, uB_3, r11]
      · rw [hTM]; simp (disch := omega) only [uA_s, uA_o, uI_s, uI_o, uB_s, uB_o, uI_2, uA_1, uA_3, uB_1, uB_a, uB_3]
      · rw [hTM]; simp (disch := omega) only [uA_s, uA_o, uI_s, uI_o, uB_s, uB_o, uI_2, uA_1, uA_3, uB_1, uB_a, uB_3]
    · refine hb.clash1 hj he hje (if_pos ⟨rfl, rfl⟩) ((if_neg (by omega)).trans (if_pos ⟨rfl, rfl⟩)) (fun a i g => (if_neg (by omega)).trans (if_neg (by omega))) (tf1 _) (tf1 _) (tf1 _) (fun b i g1 g2 g3 => ?_) ?_ ?_ (fun i g1 g2 => ?_) ?_ ?_
      · rw [hTF]; simp (disch := omega) only [uA_s, uA_o, uI_s, uI_o, uB_s, uB_o, uI_2, uA_1, uA_3, uB_1, uB_a, uB_3, c11]
      · rw [hTF]; simp (disch := omega) only [uA_s, uA_o, uI_s, uI_o, uB_s, uB_o, uI_2, uA_1, uA_3, uB_1, uB_a, uB_3]
      · rw [hTF]; simp (disch := omega) only [uA_s, uA_o, uI_s, uI_o, uB_s, uB_o, uI_2, uA_1, uA_3, uB_1, uB_a, uB_3]
      · rw [hTM]; simp (disch := omega) only [uA_s, uA_o, uI_s, uI_o, uB_s, uB_o, uI_2, uA_1, uA_3, uB_1, uB_a, uB_3, r11]
      · rw [hTM]; simp (disch := omega) only [uA_s, uA_o, uI_s, uI_o, uB_s, uB_o, uI_2, uA_1, uA_3, uB_1, uB_a, uB_3]
      · rw [hTM]; simp (disch := omega) only [uA_s, uA_o, uI_s, uI_o, uB_s, uB_o, uI_2, uA_1, uA_3, uB_1, uB_a, uB_3]
  obtain ⟨V1, hV⟩ := hV
  have hN : NM w nh nd 228 230 19 ns kd TF TM := by
    refine hn.ag (fun i => ?_) (fun i => ?_) ?_ (fun i => ?_) (fun i => ?_)
    · rw [hTF]; simp only [uA_s, uA_o, uI_s, uI_o, uB_s, uB_o, uI_2, uA_1, uA_3, uB_1, uB_a, uB_3]; rw [cc.2.2.1]
    · rw [hTF]; simp only [uA_s, uA_o, uI_s, uI_o, uB_s, uB_o, uI_2, uA_1, uA_3, uB_1, uB_a, uB_3]; rw [cc.2.2.1]
    · rw [hTM]; simp only [uA_s, uA_o, uI_s, uI_o, uB_s, uB_o, uI_2, uA_1, uA_3, uB_1, uB_a, uB_3]; exact rr.1 _ _ (by omega)
    · rw [hTM]; simp only [uA_s, uA_o, uI_s, uI_o, uB_s, uB_o, uI_2, uA_1, uA_3, uB_1, uB_a, uB_3, r11]
    · rw [hTM]; simp (disch := omega) only [uA_s, uA_o, uI_s, uI_o, uB_s, uB_o, uI_2, uA_1, uA_3, uB_1, uB_a, uB_3, r11]
  have hl1 : VL w k1 sb fb TF TM := by
    refine hl.ag hk (tf1 _) (tf1 _) ?_ (fun i => ?_) ?_ ?_ ?_ (fun i => ?_) (fun i => ?_)
    · rw [hTF]; simp only [uA_s, uA_o, uI_s, uI_o, uB_s, uB_o, uI_2, uA_1, uA_3, uB_1, uB_a, uB_3]; exact cc.1 _ _ (by omega)
    · rw [hTF]; simp (disch := omega) only [uA_s, uA_o, uI_s, uI_o, uB_s, uB_o, uI_2, uA_1, uA_3, uB_1, uB_a, uB_3, c11]
    · rw [hTM]; simp only [uA_s, uA_o, uI_s, uI_o, uB_s, uB_o, uI_2, uA_1, uA_3, uB_1, uB_a, uB_3]; exact rr.1 _ _ (by omega)
    · rw [hTM]; simp only [uA_s, uA_o, uI_s, uI_o, uB_s, uB_o, uI_2, uA_1, uA_3, uB_1, uB_a, uB_3]; exact rr.1 _ _ (by omega)
    · rcases hbo with ⟨rfl, rfl, rfl, rfl, rfl⟩ | ⟨rfl, rfl, rfl, rfl, rfl⟩ <;> rw [hTM] <;> simp (disch := omega) only [uA_s, uA_o, uI_s, uI_o, uB_s, uB_o, uI_2, uA_1, uA_3, uB_1, uB_a, uB_3, r11]
    · rw [hTM]; simp (disch := omega) only [uA_s, uA_o, uI_s, uI_o, uB_s, uB_o, uI_2, uA_1, uA_3, uB_1, uB_a, uB_3, r11]
    · rw [hTM]; simp (disch := omega) only [uA_s, uA_o, uI_s, uI_o, uB_s, uB_o, uI_2, uA_1, uA_3, uB_1, uB_a, uB_3, r11]
  refine vend hT hw pc hk hV hN hl1 (cc.vc.tr ?_) (rr.vm.tr ?_)
  · rw [hTF]
    exact (VC.wA (by omega)).tr (VC.wA (by omega))
  · rw [hTM]
    exact (VM.wA (.inl ⟨rfl, by omega⟩)).tr (VM.wA (.inl ⟨rfl, by omega⟩))
end
