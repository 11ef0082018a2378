/-! ===== PURE: a vale is read: what a line adds ===== -/
section
variable {v nh nd st a b n m : Nat} {V : Nat → Nat → Nat} {S : Nat → Nat → Int32} {t0 t0' t t' : tS}
variable {c so pl bh : Nat → Nat} {L M k w : Nat}
theorem VL.ag {sb fb k1 : Nat} {t1 t1' : tS} (h : VL w k sb fb t t') (hk : k ≤ k1) (e1 : t1.1 w 14 = t.1 w 14) (e2 : t1.1 w 15 = t.1 w 15) (e3 : t1.1 (w + 11) 2 = t.1 (w + 11) 2) (e4 : ∀ i, t1.2.1 (w + 12) i = t.2.1 (w + 12) i) (m1 : t1'.1 218 20 = t'.1 218 20) (m2 : t1'.1 218 13 = t'.1 218 13) (m3 : t1'.2.1 224 53 = t'.2.1 224 53) (m4 : ∀ i, t1'.2.1 225 i = t'.2.1 225 i) (m5 : ∀ i, t1'.2.1 226 i = t'.2.1 226 i) : VL w k1 sb fb t1 t1' := by
  obtain ⟨h1, h2, h3, h4, h5⟩ := h
  unfold VL
  simp only [e1, e2, e3, e4, m1, m2, m3, m4, m5]
  refine ⟨h1, h2, h3, h4, ?_⟩
  rcases h5 with h | ⟨g1, g2, len, dp, g3, g4⟩
  · exact .inl h
  · exact .inr ⟨g1, g2, len, dp, by omega, g4⟩
theorem NM.house {ns : Nat → List Nat} {kd : Nat → Nat} {x : List Nat} {t1 t1' : tS} (h : NM w nh nd 228 230 19 ns kd t t') (hx : IW x) (hnew : ∀ i, i < nh + nd → ¬ ns i = x) (h4 : nh ≤ 4) (e1 : ∀ i, i ≠ nh → t1.2.2.1 (w + 1) i = t.2.2.1 (w + 1) i) (e2 : t1.2.2.1 (w + 1) nh = nL (enc 32 x 0)) (e3 : ∀ i, t1.2.2.1 (w + 4) i = t.2.2.1 (w + 4) i) (m1 : t1'.1 218 19 = nI (nh + nd + 1)) (m2 : ∀ i, i ≠ nh + nd → t1'.2.2.1 228 i = t'.2.2.1 228 i) (m3 : t1'.2.2.1 228 (nh + nd) = nL (enc 37 x 0)) (m4 : ∀ i, i ≠ nh + nd → t1'.2.1 230 i = t'.2.1 230 i) (m5 : t1'.2.1 230 (nh + nd) = nI nh) : ∃ ns1 kd1, NM w (nh + 1) nd 228 230 19 ns1 kd1 t1 t1' := by
  obtain ⟨h1, h2, h3, h5, h6⟩ := h
  refine ⟨fun i => if i = nh + nd then x else ns i, fun i => if i = nh + nd then nh else kd i, ?_, ?_, ?_, ?_, ?_⟩
  · rw [m1, show nh + nd + 1 = nh + 1 + nd by omega]
  · intro i hi
    show IW (if i = nh + nd then x else ns i) ∧ t1'.2.2.1 228 i = Int64.ofNat (enc 37 (if i = nh + nd then x else ns i) 0) ∧ t1'.2.1 230 i = nI (if i = nh + nd then nh else kd i) ∧ (((if i = nh + nd then nh else kd i) < nh + 1 ∧ t1.2.2.1 (w + 1) (if i = nh + nd then nh else kd i) = Int64.ofNat (enc 32 (if i = nh + nd then x else ns i) 0)) ∨ (20 ≤ (if i = nh + nd then nh else kd i) ∧ (if i = nh + nd then nh else kd i) < 20 + nd ∧ t1.2.2.1 (w + 4) ((if i = nh + nd then nh else kd i) - 20) = Int64.ofNat (enc 32 (if i = nh + nd then x else ns i) 0)))
    by_cases e : i = nh + nd
    · simp only [if_pos e]
      rw [e]
      exact ⟨hx, m3, m5, .inl ⟨by omega, e2⟩⟩
    · simp only [if_neg e]
      obtain ⟨g1, g2, g3, g4⟩ := h2 i (by omega)
      refine ⟨g1, (m2 i e).trans g2, (m4 i e).trans g3, ?_⟩
      rcases g4 with ⟨g5, g6⟩ | ⟨g5, g6, g7⟩
      · exact .inl ⟨by omega, (e1 _ (by omega)).trans g6⟩
      · exact .inr ⟨g5, g6, (e3 _).trans g7⟩
  · intro j hj
    show ∃ i, i < nh + 1 + nd ∧ (if i = nh + nd then nh else kd i) = j
    by_cases e : j = nh
    · exact ⟨nh + nd, by omega, by rw [if_pos rfl, e]⟩
    · obtain ⟨i, i1, i2⟩ := h3 j (by omega)
      exact ⟨i, by omega, by rw [if_neg (by omega), i2]⟩
  · intro j hj
    show ∃ i, i < nh + 1 + nd ∧ (if i = nh + nd then nh else kd i) = 20 + j
    obtain ⟨i, i1, i2⟩ := h5 j hj
    exact ⟨i, by omega, by rw [if_neg (by omega), i2]⟩
  · intro i j hi hj he
    have he : (if i = nh + nd then x else ns i) = (if j = nh + nd then x else ns j) := he
    by_cases e1 : i = nh + nd
    · by_cases e2 : j = nh + nd
      · omega
      · rw [if_pos e1, if_neg e2] at he
        exact absurd he.symm (hnew j (by omega))
    · by_cases e2 : j = nh + nd
      · rw [if_neg e1, if_pos e2] at he
        exact absurd he (hnew i (by omega))
      · rw [if_neg e1, if_neg e2] at he
        exact h6 i j (by omega) (by omega) he
theorem NM.day {ns : Nat → List Nat} {kd : Nat → Nat} {x : List Nat} {t1 t1' : tS} (h : NM w nh nd 228 230 19 ns kd t t') (hx : IW x) (hnew : ∀ i, i < nh + nd → ¬ ns i = x) (h4 : nh ≤ 4) (e1 : ∀ i, i ≠ nd → t1.2.2.1 (w + 4) i = t.2.2.1 (w + 4) i) (e2 : t1.2.2.1 (w + 4) nd = nL (enc 32 x 0)) (e3 : ∀ i, t1.2.2.1 (w + 1) i = t.2.2.1 (w + 1) i) (m1 : t1'.1 218 19 = nI (nh + nd + 1)) (m2 : ∀ i, i ≠ nh + nd → t1'.2.2.1 228 i = t'.2.2.1 228 i) (m3 : t1'.2.2.1 228 (nh + nd) = nL (enc 37 x 0)) (m4 : ∀ i, i ≠ nh + nd → t1'.2.1 230 i = t'.2.1 230 i) (m5 : t1'.2.1 230 (nh + nd) = nI (20 + nd)) : ∃ ns1 kd1, NM w nh (nd + 1) 228 230 19 ns1 kd1 t1 t1' := by
  obtain ⟨h1, h2, h3, h5, h6⟩ := h
  refine ⟨fun i => if i = nh + nd then x else ns i, fun i => if i = nh + nd then 20 + nd else kd i, ?_, ?_, ?_, ?_, ?_⟩
  · rw [m1, show nh + nd + 1 = nh + (nd + 1) by omega]
  · intro i hi
    show IW (if i = nh + nd then x else ns i) ∧ t1'.2.2.1 228 i = Int64.ofNat (enc 37 (if i = nh + nd then x else ns i) 0) ∧ t1'.2.1 230 i = nI (if i = nh + nd then 20 + nd else kd i) ∧ (((if i = nh + nd then 20 + nd else kd i) < nh ∧ t1.2.2.1 (w + 1) (if i = nh + nd then 20 + nd else kd i) = Int64.ofNat (enc 32 (if i = nh + nd then x else ns i) 0)) ∨ (20 ≤ (if i = nh + nd then 20 + nd else kd i) ∧ (if i = nh + nd then 20 + nd else kd i) < 20 + (nd + 1) ∧ t1.2.2.1 (w + 4) ((if i = nh + nd then 20 + nd else kd i) - 20) = Int64.ofNat (enc 32 (if i = nh + nd then x else ns i) 0)))
    by_cases e : i = nh + nd
    · simp only [if_pos e]
      rw [e]
      exact ⟨hx, m3, m5, .inr ⟨by omega, by omega, by rw [show 20 + nd - 20 = nd by omega]; exact e2⟩⟩
    · simp only [if_neg e]
      obtain ⟨g1, g2, g3, g4⟩ := h2 i (by omega)
      refine ⟨g1, (m2 i e).trans g2, (m4 i e).trans g3, ?_⟩
      rcases g4 with ⟨g5, g6⟩ | ⟨g5, g6, g7⟩
      · exact .inl ⟨g5, (e3 _).trans g6⟩
      · exact .inr ⟨g5, by omega, (e1 _ (by omega)).trans g7⟩
  · intro j hj
    show ∃ i, i < nh + (nd + 1) ∧ (if i = nh + nd then 20 + nd else kd i) = j
    obtain ⟨i, i1, i2⟩ := h3 j hj
    exact ⟨i, by omega, by rw [if_neg (by omega), i2]⟩
  · intro j hj
    show ∃ i, i < nh + (nd + 1) ∧ (if i = nh + nd then 20 + nd else kd i) = 20 + j
    by_cases e : j = nd
    · exact ⟨nh + nd, by omega, by rw [if_pos rfl, e]⟩
    · obtain ⟨i, i1, i2⟩ := h5 j (by omega)
      exact ⟨i, by omega, by rw [if_neg (by omega), i2]⟩
  · intro i j hi hj he
    have he : (if i = nh + nd then x else ns i) = (if j = nh + nd then x else ns j) := he
    by_cases e1 : i = nh + nd
    · by_cases e2 : j = nh + nd
      · omega
      · rw [if_pos e1, if_neg e2] at he
        exact absurd he.symm (hnew j (by omega))
    · by_cases e2 : j = nh + nd
      · rw [if_neg e1, if_pos e2] at he
        exact absurd he (hnew i (by omega))
      · rw [if_neg e1, if_neg e2] at he
        exact h6 i j (by omega) (by omega) he
theorem p2_le {a b : Nat} (h : a ≤ b) : 2 ^ a ≤ 2 ^ b := Nat.pow_le_pow_right (by decide) h
/-- a house more -/
theorem VB.house1 {n : Nat} {V1 : Nat → Nat → Nat} {t1 t1' : tS} (f2 : V1 2 nh = n) (f3 : V1 3 nh = 0) (fo : ∀ a j, ¬ (a = 2 ∧ j = nh) → ¬ (a = 3 ∧ j = nh) → V1 a j = V a j) (h : VB w nh nd st V t t') (hn : nh < 4) (n1 : 1 ≤ n) (n6 : n ≤ 6) (a1 : t1.1 w 11 = nI (nh + 1)) (a2 : t1.1 w 12 = t.1 w 12) (a3 : t1.1 w 13 = t.1 w 13) (e1 : ∀ j, j ≠ nh → t1.2.1 (w + 2) j = t.2.1 (w + 2) j) (e2 : t1.2.1 (w + 2) nh = nI n) (e3 : ∀ b i, w + 3 ≤ b → b ≤ w + 10 → t1.2.1 b i = t.2.1 b i) (m1 : ∀ i, i ≠ 50 → i ≠ 54 + 2 * nh → t1'.2.1 224 i = t'.2.1 224 i) (m2 : t1'.2.1 224 50 = nI (nh + 1)) (m3 : t1'.2.1 224 (54 + 2 * nh) = nI n) : VB w (nh + 1) nd st V1 t1 t1' := by
  obtain ⟨⟨k1, k2, k3, k4, k5, k6, k7, k8⟩, ⟨v1, v2, v3, v4, v5, v6, v7, v8, v9, v10, v11⟩, ⟨r1, r2, r3, r4, r5, r6, r7, r8, r9, r10⟩, z1, z2⟩ := h
  refine ⟨⟨by omega, k2, k3, k4, ?_, ?_, ?_, ?_⟩, ⟨a1, a2.trans v2, a3.trans v3, ?_, ?_, ?_, ?_, ?_, ?_, ?_, ?_⟩, ⟨m2, ?_, ?_, ?_, ?_, ?_, ?_, ?_, ?_, ?_⟩, ?_, ?_⟩
  · intro j hj
    have p := p2_le (show nh ≤ nh + 1 by omega)
    by_cases e : j = nh
    · subst e
      rw [f2, f3]
      have := Nat.one_le_two_pow (n := j + 1)
      exact ⟨n1, n6, by omega⟩
    · rw [fo _ _ (by omega) (by omega), fo _ _ (by omega) (by omega)]
      have := k5 j (by omega)
      omega
  · intro d hd
    have := k6 d hd
    rw [fo _ _ (by omega) (by omega), fo _ _ (by omega) (by omega), fo _ _ (by omega) (by omega), fo _ _ (by omega) (by omega), fo _ _ (by omega) (by omega)]
    omega
  · intro d e hd he
    rw [fo _ _ (by omega) (by omega), fo _ _ (by omega) (by omega)]
    exact k7 d e hd he
  · intro d hd
    rw [fo _ _ (by omega) (by omega)]
    exact k8 d hd
  · intro j hj
    by_cases e : j = nh
    · subst e
      rw [f2]
      exact e2
    · rw [fo _ _ (by omega) (by omega), e1 j e]
      exact v4 j (by omega)
  · intro j hj
    rw [e3 _ _ (by omega) (by omega)]
    by_cases e : j = nh
    · subst e
      rw [f3]
      exact (z1 j (by omega) hn).1
    · rw [fo _ _ (by omega) (by omega)]
      exact v5 j (by omega)
  · intro d hd
    rw [e3 _ _ (by omega) (by omega), fo _ _ (by omega) (by omega)]
    exact v6 d hd
  · intro d hd
    rw [e3 _ _ (by omega) (by omega), fo _ _ (by omega) (by omega)]
    exact v7 d hd
  · intro d hd
    rw [e3 _ _ (by omega) (by omega), fo _ _ (by omega) (by omega)]
    exact v8 d hd
  · intro d hd
    rw [e3 _ _ (by omega) (by omega), fo _ _ (by omega) (by omega)]
    exact v9 d hd
  · intro d hd
    rw [e3 _ _ (by omega) (by omega), fo _ _ (by omega) (by omega)]
    exact v10 d hd
  · intro d hd
    rw [e3 _ _ (by omega) (by omega), v11 d hd, fo _ _ (by omega) (by omega)]
  · exact (m1 _ (by omega) (by omega)).trans r2
  · exact (m1 _ (by omega) (by omega)).trans r3
  · intro j hj
    by_cases e : j = nh
    · subst e
      rw [f2]
      show t1'.2.1 224 (50 + (4 + 2 * j)) = _
      rw [show 50 + (4 + 2 * j) = 54 + 2 * j by omega]
      exact m3
    · rw [fo _ _ (by omega) (by omega)]
      exact (m1 _ (by omega) (by omega)).trans (r4 j (by omega))
  · intro j hj
    show t1'.2.1 224 (50 + (4 + 2 * j + 1)) = _
    rw [m1 _ (by omega) (by omega)]
    by_cases e : j = nh
    · subst e
      rw [f3]
      exact (z1 j (by omega) hn).2
    · rw [fo _ _ (by omega) (by omega)]
      exact r5 j (by omega)
  · intro d hd
    rw [fo _ _ (by omega) (by omega)]
    exact (m1 _ (by omega) (by omega)).trans (r6 d hd)
  · intro d hd
    rw [fo _ _ (by omega) (by omega)]
    exact (m1 _ (by omega) (by omega)).trans (r7 d hd)
  · intro d hd
    rw [fo _ _ (by omega) (by omega)]
    exact (m1 _ (by omega) (by omega)).trans (r8 d hd)
  · intro d hd
    rw [fo _ _ (by omega) (by omega)]
    exact (m1 _ (by omega) (by omega)).trans (r9 d hd)
  · intro d hd
    rw [fo _ _ (by omega) (by omega)]
    exact (m1 _ (by omega) (by omega)).trans (r10 d hd)
  · intro j h1 h2
    obtain ⟨g1, g2⟩ := z1 j (by omega) h2
    exact ⟨(e3 _ _ (by omega) (by omega)).trans g1, (m1 _ (by omega) (by omega)).trans g2⟩
  · intro d h1 h2
    obtain ⟨g1, g2⟩ := z2 d h1 h2
    exact ⟨(e3 _ _ (by omega) (by omega)).trans g1, (m1 _ (by omega) (by omega)).trans g2⟩
/-- a day more -/
theorem VB.day1 {x5 x6 x7 x8 : Nat} {V1 : Nat → Nat → Nat} {t1 t1' : tS} (f5 : V1 5 nd = x5) (f6 : V1 6 nd = x6) (f7 : V1 7 nd = x7) (f8 : V1 8 nd = x8) (f9 : V1 9 nd = 0) (lo : ∀ a j, a < 5 → V1 a j = V a j) (ot : ∀ a j, j ≠ nd → V1 a j = V a j) (h : VB w nh nd st V t t') (hn : nd < 6) (n5 : x5 < 4) (n6 : x6 < nh) (n7 : x7 < 12) (n8 : x8 ≤ 40) (a1 : t1.1 w 11 = t.1 w 11) (a2 : t1.1 w 12 = nI (nd + 1)) (a3 : t1.1 w 13 = t.1 w 13) (e1 : ∀ b i, w + 2 ≤ b → b ≤ w + 10 → (i ≠ nd ∨ b = w + 2 ∨ b = w + 3 ∨ b = w + 9) → t1.2.1 b i = t.2.1 b i) (e5 : t1.2.1 (w + 5) nd = nI x5) (e6 : t1.2.1 (w + 6) nd = nI x6) (e7 : t1.2.1 (w + 7) nd = nI x7) (e8 : t1.2.1 (w + 8) nd = nI x8) (e9 : t1.2.1 (w + 10) nd = nI (if x5 = 1 then 2 else 1)) (m1 : ∀ i, i ≠ 51 → ¬ (62 + 5 * nd ≤ i ∧ i < 62 + 5 * nd + 4) → t1'.2.1 224 i = t'.2.1 224 i) (m2 : t1'.2.1 224 51 = nI (nd + 1)) (m5 : t1'.2.1 224 (62 + 5 * nd) = nI x5) (m6 : t1'.2.1 224 (62 + 5 * nd + 1) = nI x6) (m7 : t1'.2.1 224 (62 + 5 * nd + 2) = nI x7) (m8 : t1'.2.1 224 (62 + 5 * nd + 3) = nI x8) : VB w nh (nd + 1) st V1 t1 t1' := by
  obtain ⟨⟨k1, k2, k3, k4, k5, k6, k7, k8⟩, ⟨v1, v2, v3, v4, v5, v6, v7, v8, v9, v10, v11⟩, ⟨r1, r2, r3, r4, r5, r6, r7, r8, r9, r10⟩, z1, z2⟩ := h
  have p := p2_le (show nd ≤ nd + 1 by omega)
  have p1 := Nat.one_le_two_pow (n := nd + 1)
  refine ⟨⟨k1, by omega, k3, k4, ?_, ?_, ?_, ?_⟩, ⟨a1.trans v1, a2, a3.trans v3, ?_, ?_, ?_, ?_, ?_, ?_, ?_, ?_⟩, ⟨?_, m2, ?_, ?_, ?_, ?_, ?_, ?_, ?_, ?_⟩, ?_, ?_⟩
  · intro j hj
    rw [lo 2 j (by omega), lo 3 j (by omega)]
    exact k5 j hj
  · intro d hd
    by_cases e : d = nd
    · rw [e, f5, f6, f7, f8, f9]
      omega
    · rw [ot 5 d e, ot 6 d e, ot 7 d e, ot 8 d e, ot 9 d e]
      have := k6 d (by omega)
      omega
  · intro d e hd he
    by_cases d1 : d = nd
    · by_cases d2 : e = nd
      · rw [d1, d2]
      · rw [d1, f9, ot 9 e d2, Nat.zero_testBit, Nat.testBit_lt_two_pow]
        have := k6 e (by omega)
        omega
    · by_cases d2 : e = nd
      · rw [d2, f9, ot 9 d d1, Nat.zero_testBit, Nat.testBit_lt_two_pow]
        have := k6 d (by omega)
        omega
      · rw [ot 9 d d1, ot 9 e d2]
        exact k7 d e (by omega) (by omega)
  · intro d hd
    by_cases d1 : d = nd
    · rw [d1, f9, Nat.zero_testBit]
    · rw [ot 9 d d1]
      exact k8 d (by omega)
  · intro j hj
    rw [lo 2 j (by omega), e1 _ _ (by omega) (by omega) (by omega)]
    exact v4 j hj
  · intro j hj
    rw [lo 3 j (by omega), e1 _ _ (by omega) (by omega) (by omega)]
    exact v5 j hj
  · intro d hd
    by_cases d1 : d = nd
    · rw [d1, f5]; exact e5
    · rw [ot 5 d d1, e1 _ _ (by omega) (by omega) (by omega)]
      exact v6 d (by omega)
  · intro d hd
    by_cases d1 : d = nd
    · rw [d1, f6]; exact e6
    · rw [ot 6 d d1, e1 _ _ (by omega) (by omega) (by omega)]
      exact v7 d (by omega)
  · intro d hd
    by_cases d1 : d = nd
    · rw [d1, f7]; exact e7
    · rw [ot 7 d d1, e1 _ _ (by omega) (by omega) (by omega)]
      exact v8 d (by omega)
  · intro d hd
    by_cases d1 : d = nd
    · rw [d1, f8]; exact e8
    · rw [ot 8 d d1, e1 _ _ (by omega) (by omega) (by omega)]
      exact v9 d (by omega)
  · intro d hd
    by_cases d1 : d = nd
    · rw [d1, f9, e1 _ _ (by omega) (by omega) (by omega)]
      exact (z2 nd (by omega) hn).1
    · rw [ot 9 d d1, e1 _ _ (by omega) (by omega) (by omega)]
      exact v10 d (by omega)
  · intro d hd
    by_cases d1 : d = nd
    · rw [d1, f5]
      exact e9
    · rw [ot 5 d d1, e1 _ _ (by omega) (by omega) (by omega)]
      exact v11 d (by omega)
  · exact (m1 _ (by omega) (by omega)).trans r1
  · exact (m1 _ (by omega) (by omega)).trans r3
  · intro j hj
    rw [lo 2 j (by omega)]
    exact (m1 _ (by omega) (by omega)).trans (r4 j hj)
  · intro j hj
    rw [lo 3 j (by omega)]
    exact (m1 _ (by omega) (by omega)).trans (r5 j hj)
  · intro d hd
    by_cases d1 : d = nd
    · rw [d1, f5]
      show t1'.2.1 224 (50 + (12 + 5 * nd)) = _
      rw [show 50 + (12 + 5 * nd) = 62 + 5 * nd by omega]; exact m5
    · rw [ot 5 d d1]
      exact (m1 _ (by omega) (by omega)).trans (r6 d (by omega))
  · intro d hd
    by_cases d1 : d = nd
    · rw [d1, f6]
      show t1'.2.1 224 (50 + (12 + 5 * nd + 1)) = _
      rw [show 50 + (12 + 5 * nd + 1) = 62 + 5 * nd + 1 by omega]; exact m6
    · rw [ot 6 d d1]
      exact (m1 _ (by omega) (by omega)).trans (r7 d (by omega))
  · intro d hd
    by_cases d1 : d = nd
    · rw [d1, f7]
      show t1'.2.1 224 (50 + (12 + 5 * nd + 2)) = _
      rw [show 50 + (12 + 5 * nd + 2) = 62 + 5 * nd + 2 by omega]; exact m7
    · rw [ot 7 d d1]
      exact (m1 _ (by omega) (by omega)).trans (r8 d (by omega))
  · intro d hd
    by_cases d1 : d = nd
    · rw [d1, f8]
      show t1'.2.1 224 (50 + (12 + 5 * nd + 3)) = _
      rw [show 50 + (12 + 5 * nd + 3) = 62 + 5 * nd + 3 by omega]; exact m8
    · rw [ot 8 d d1]
      exact (m1 _ (by omega) (by omega)).trans (r9 d (by omega))
  · intro d hd
    by_cases d1 : d = nd
    · rw [d1, f9]
      exact (m1 _ (by omega) (by omega)).trans (z2 nd (by omega) hn).2
    · rw [ot 9 d d1]
      exact (m1 _ (by omega) (by omega)).trans (r10 d (by omega))
  · intro j h1 h2
    obtain ⟨g1, g2⟩ := z1 j h1 h2
    exact ⟨(e1 _ _ (by omega) (by omega) (by omega)).trans g1, (m1 _ (by omega) (by omega)).trans g2⟩
  · intro d h1 h2
    obtain ⟨g1, g2⟩ := z2 d (by omega) h2
    exact ⟨(e1 _ _ (by omega) (by omega) (by omega)).trans g1, (m1 _ (by omega) (by omega)).trans g2⟩
theorem VB.house {n : Nat} {t1 t1' : tS} (h : VB w nh nd st V t t') (hn : nh < 4) (n1 : 1 ≤ n) (n6 : n ≤ 6) (a1 : t1.1 w 11 = nI (nh + 1)) (a2 : t1.1 w 12 = t.1 w 12) (a3 : t1.1 w 13 = t.1 w 13) (e1 : ∀ j, j ≠ nh → t1.2.1 (w + 2) j = t.2.1 (w + 2) j) (e2 : t1.2.1 (w + 2) nh = nI n) (e3 : ∀ b i, w + 3 ≤ b → b ≤ w + 10 → t1.2.1 b i = t.2.1 b i) (m1 : ∀ i, i ≠ 50 → i ≠ 54 + 2 * nh → t1'.2.1 224 i = t'.2.1 224 i) (m2 : t1'.2.1 224 50 = nI (nh + 1)) (m3 : t1'.2.1 224 (54 + 2 * nh) = nI n) : ∃ V1, VB w (nh + 1) nd st V1 t1 t1' :=
  ⟨fun a j => if a = 2 ∧ j = nh then n else if a = 3 ∧ j = nh then 0 else V a j, h.house1 (if_pos ⟨rfl, rfl⟩) ((if_neg (by omega)).trans (if_pos ⟨rfl, rfl⟩)) (fun _ _ g1 g2 => (if_neg g1).trans (if_neg g2)) hn n1 n6 a1 a2 a3 e1 e2 e3 m1 m2 m3⟩
theorem VB.day {x5 x6 x7 x8 : Nat} {t1 t1' : tS} (h : VB w nh nd st V t t') (hn : nd < 6) (n5 : x5 < 4) (n6 : x6 < nh) (n7 : x7 < 12) (n8 : x8 ≤ 40) (a1 : t1.1 w 11 = t.1 w 11) (a2 : t1.1 w 12 = nI (nd + 1)) (a3 : t1.1 w 13 = t.1 w 13) (e1 : ∀ b i, w + 2 ≤ b → b ≤ w + 10 → (i ≠ nd ∨ b = w + 2 ∨ b = w + 3 ∨ b = w + 9) → t1.2.1 b i = t.2.1 b i) (e5 : t1.2.1 (w + 5) nd = nI x5) (e6 : t1.2.1 (w + 6) nd = nI x6) (e7 : t1.2.1 (w + 7) nd = nI x7) (e8 : t1.2.1 (w + 8) nd = nI x8) (e9 : t1.2.1 (w + 10) nd = nI (if x5 = 1 then 2 else 1)) (m1 : ∀ i, i ≠ 51 → ¬ (62 + 5 * nd ≤ i ∧ i < 62 + 5 * nd + 4) → t1'.2.1 224 i = t'.2.1 224 i) (m2 : t1'.2.1 224 51 = nI (nd + 1)) (m5 : t1'.2.1 224 (62 + 5 * nd) = nI x5) (m6 : t1'.2.1 224 (62 + 5 * nd + 1) = nI x6) (m7 : t1'.2.1 224 (62 + 5 * nd + 2) = nI x7) (m8 : t1'.2.1 224 (62 + 5 * nd + 3) = nI x8) : ∃ V1, VB w nh (nd + 1) st V1 t1 t1' :=
  ⟨fun a d => if d = nd ∧ 5 ≤ a then (if a = 5 then x5 else if a = 6 then x6 else if a = 7 then x7 else if a = 8 then x8 else 0) else V a d, h.day1 (by simp) (by simp) (by simp) (by simp) (by simp) (fun _ _ g => if_neg (by omega)) (fun _ _ g => if_neg (by omega)) hn n5 n6 n7 n8 a1 a2 a3 e1 e5 e6 e7 e8 e9 m1 m2 m5 m6 m7 m8⟩
end
