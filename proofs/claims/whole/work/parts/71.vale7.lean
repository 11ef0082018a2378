/-! ===== PURE: a vale is read: lends, clash ===== -/
section
variable {v nh nd st a b n m : Nat} {V : Nat → Nat → Nat} {S : Nat → Nat → Int32} {t0 t0' t t' : tS}
variable {c so pl bh : Nat → Nat} {L M k w : Nat}
theorem vlends (hT : TK c L M so pl bh) (hw : w = 182 ∨ w = 196) (h : VST c L M so pl bh w k t t') (hi : isw c so pl bh k 2 = true) : VOUT c L M so pl bh w k (tX4_readLends w t) ((tX10_readPair 0 5 2 t').bind fun tt => tX10_takeSign 59 tt) t t' := by
  have hM := hT.2.2.1
  have hL := hT.1
  obtain ⟨hp, nh, nd, st, V, sb, fb, hb, ⟨ns, kd, hn⟩, hl⟩ := h
  have h4 := hb.1.1
  have h6 := hb.1.2.1
  have c1 := hb.2.1.1
  have c2 := hb.2.1.2.1
  have hkM := isw_m hT hp.1 hi
  have o01 : ¬ (1 : Int32) = 0 := by decide
  have ix : ((50 : Int32) + 5) = nI 55 := by decide
  have row : ∀ i, i < nh → t.2.1 (w + 3) i = nI (V 3 i) := hb.2.1.2.2.2.2.1
  have rom : ∀ i, i < nh → t'.2.1 224 (55 + 2 * i) = nI (V 3 i) := by
    intro i hi
    have := hb.2.2.1.2.2.2.2.1 i hi
    have this : t'.2.1 224 (50 + (4 + 2 * i + 1)) = _ := this
    rw [show 50 + (4 + 2 * i + 1) = 55 + 2 * i by omega] at this
    exact this
  have vlt : ∀ i, i < nh → V 3 i < 2 ^ nh := fun i hi => (hb.1.2.2.2.2.1 i hi).2.2
  have p64 : 2 ^ nh ≤ 64 := p2_le (b := 6) (by omega)
  obtain ⟨T, e1, e2, e3⟩ := hp.step hT hkM
  have hn1 := hn.go e3.co (RO1.wI (t := t') (j := 7) (x := nI (k + 1)) (.inl rfl))
  unfold tX4_readLends tX10_readPair
  rw [e1, hp.at1, ix]
  simp only [ob_s]
  rcases e2.pHouse (fl := 1) (B := 0) hT hn1 (.inl ⟨rfl, rfl, rfl, rfl⟩) h4 h6 ((e3.1 _ _ (by omega)).trans c1) ((e3.1 _ _ (by omega)).trans c2) (by omega) with ⟨j, t1, t1', hj, _, a1, a2, a3, a4, a5, a6⟩ | ⟨F, t1, t1', a1, a2, a3⟩
  · have a1' : tX4_passHouse w 0 T = some (1, t1) := a1
    have a3' : tX10_takeTold 1 0 0 (uI t' 218 7 (nI (k + 1))) = some (nI j, t1') := a3
    have cc1 : CO1 t t1 := e3.co.tr a5
    have rr1 : RO1 t' t1' := (RO1.wI (.inl rfl)).tr a6
    have x1 : t1.2.1 (w + 3) j = nI (V 3 j) := by rw [cc1.2.1]; exact row j hj
    have y1 : t1'.2.1 224 (55 + 2 * j) = nI (V 3 j) := by rw [rr1.2]; exact rom j hj
    have lt1 : 2 ^ j ||| V 3 j < 64 := by rw [Nat.or_comm]; exact Nat.lt_of_lt_of_le (or_b (vlt j hj) hj) p64
    rw [a1', a3']
    simp only [ob_s, ob_2, o01, not_false_eq_true, if_true]
    rw [a2, tA_e (by omega) (by omega), x1, nN_shl (by omega), nN_lm, nN_ad, tA_e (by omega) (by omega), y1]
    simp only [ob_s]
    rw [nN_or, nN_or, Nat.or_comm (V 3 j) (2 ^ j)]
    rcases a4.pHouse (fl := 1) (B := 2 ^ j ||| V 3 j) hT (hn1.go a5 a6) (.inl ⟨rfl, rfl, rfl, rfl⟩) h4 h6 ((cc1.1 _ _ (by omega)).trans c1) ((cc1.1 _ _ (by omega)).trans c2) lt1 with ⟨e, t2, t2', he, hbit, b1, b2, b3, b4, b5, b6⟩ | ⟨F, t2, t2', b1, b2, b3⟩
    · have cc2 : CO1 t t2 := cc1.tr b5
      have rr2 : RO1 t' t2' := rr1.tr b6
      have hje : j ≠ e := by
        intro z
        rw [Nat.or_comm, or_t, decide_eq_true z, Bool.or_true] at hbit
        cases hbit
      have x2 : t2.2.1 (w + 3) j = nI (V 3 j) := by rw [cc2.2.1]; exact row j hj
      have x3 : t2.2.1 (w + 3) e = nI (V 3 e) := by rw [cc2.2.1]; exact row e he
      have y2 : t2'.2.1 224 (55 + 2 * j) = nI (V 3 j) := by rw [rr2.2]; exact rom j hj
      have y3 : t2'.2.1 224 (55 + 2 * e) = nI (V 3 e) := by rw [rr2.2]; exact rom e he
      have z8 : t2'.1 218 8 = 0 := b4.2.2.2.2.2
      rw [b1, b3]
      simp only [ob_s, ob_2, o01, not_false_eq_true, if_true, z8, not_true_eq_false, if_false]
      rw [tA_e (by omega) (by omega), x2, b2, nN_shl (by omega), tA_e (by omega) (by omega), y2, nN_lm, nN_ad]
      simp only [ob_s]
      rw [nN_or, tW0_e (by omega) (by omega), tW0_e (by omega) (by omega)]
      simp only [ob_s]
      rw [tA_e (by omega) (by omega), uA_o (by omega), x3, tA_e (by omega) (by omega), uA_o (by omega), y3]
      simp only [ob_s]
      rw [nN_or, tW0_e (by omega) (by omega), tW0_e (by omega) (by omega)]
      simp only [ob_s]
      exact vpair hT hw (.inl ⟨rfl, rfl, rfl, rfl, rfl⟩) hb hn hl cc2 rr2 b4 (by omega) hj he hje
    · have z8 := b3.ft.n0
      rw [b1, b2]
      simp only [ob_s, ob_2, not_true_eq_false, if_false, z8, not_false_eq_true, if_true]
      exact b3.vo cc1.vc rr1.vm
  · have a1' : tX4_passHouse w 0 T = some (0, t1) := a1
    have a2' : tX10_takeTold 1 0 0 (uI t' 218 7 (nI (k + 1))) = some (0, t1') := a2
    have z8 := a3.ft.n0
    have i0 : (nI 55 + (2 : Int32) * 0) = nI 55 := by decide
    rw [a1', a2']
    simp only [ob_s, ob_2]
    rw [i0, tA_e (by omega) (by omega)]
    simp only [ob_s, ob_2, a3.ft.takeTold, not_true_eq_false, if_false, z8, not_false_eq_true, if_true]
    exact a3.vo e3.co.vc (RO1.wI (.inl rfl)).vm
theorem vclash (hT : TK c L M so pl bh) (hw : w = 182 ∨ w = 196) (h : VST c L M so pl bh w k t t') (hi : isw c so pl bh k 7 = true) : VOUT c L M so pl bh w k (tX4_readClash w t) ((tX10_readPair 20 16 5 t').bind fun tt => tX10_takeSign 59 tt) t t' := by
  have hM := hT.2.2.1
  have hL := hT.1
  obtain ⟨hp, nh, nd, st, V, sb, fb, hb, ⟨ns, kd, hn⟩, hl⟩ := h
  have h4 := hb.1.1
  have h6 := hb.1.2.1
  have c1 := hb.2.1.1
  have c2 := hb.2.1.2.1
  have hkM := isw_m hT hp.1 hi
  have o01 : ¬ (1 : Int32) = 0 := by decide
  have ix : ((50 : Int32) + 16) = nI 66 := by decide
  have row : ∀ i, i < nd → t.2.1 (w + 9) i = nI (V 9 i) := hb.2.1.2.2.2.2.2.2.2.2.2.1
  have rom : ∀ i, i < nd → t'.2.1 224 (66 + 5 * i) = nI (V 9 i) := by
    intro i hi
    have := hb.2.2.1.2.2.2.2.2.2.2.2.2 i hi
    have this : t'.2.1 224 (50 + (12 + 5 * i + 4)) = _ := this
    rw [show 50 + (12 + 5 * i + 4) = 66 + 5 * i by omega] at this
    exact this
  have vlt : ∀ i, i < nd → V 9 i < 2 ^ nd := fun i hi => (hb.1.2.2.2.2.2.1 i hi).2.2.2.2
  have p64 : 2 ^ nd ≤ 64 := p2_le (b := 6) (by omega)
  obtain ⟨T, e1, e2, e3⟩ := hp.step hT hkM
  have hn1 := hn.go e3.co (RO1.wI (t := t') (j := 7) (x := nI (k + 1)) (.inl rfl))
  unfold tX4_readClash tX10_readPair
  rw [e1, hp.at1, ix]
  simp only [ob_s]
  rcases e2.pDay (fl := 1) (B := 0) hT hn1 (.inl ⟨rfl, rfl, rfl, rfl⟩) h4 h6 ((e3.1 _ _ (by omega)).trans c1) ((e3.1 _ _ (by omega)).trans c2) (by omega) with ⟨j, t1, t1', hj, _, a1, a2, a3, a4, a5, a6⟩ | ⟨F, t1, t1', a1, a2, a3⟩
  · have a1' : tX4_passDay w 0 T = some (1, t1) := a1
    have a3' : tX10_takeTold 1 20 0 (uI t' 218 7 (nI (k + 1))) = some (nI j, t1') := a3
    have cc1 : CO1 t t1 := e3.co.tr a5
    have rr1 : RO1 t' t1' := (RO1.wI (.inl rfl)).tr a6
    have x1 : t1.2.1 (w + 9) j = nI (V 9 j) := by rw [cc1.2.1]; exact row j hj
    have y1 : t1'.2.1 224 (66 + 5 * j) = nI (V 9 j) := by rw [rr1.2]; exact rom j hj
    have lt1 : 2 ^ j ||| V 9 j < 64 := by rw [Nat.or_comm]; exact Nat.lt_of_lt_of_le (or_b (vlt j hj) hj) p64
    rw [a1', a3']
    simp only [ob_s, ob_2, o01, not_false_eq_true, if_true]
    rw [a2, tA_e (by omega) (by omega), x1, nN_shl (by omega), nN_lm, nN_ad, tA_e (by omega) (by omega), y1]
    simp only [ob_s]
    rw [nN_or, nN_or, Nat.or_comm (V 9 j) (2 ^ j)]
    rcases a4.pDay (fl := 1) (B := 2 ^ j ||| V 9 j) hT (hn1.go a5 a6) (.inl ⟨rfl, rfl, rfl, rfl⟩) h4 h6 ((cc1.1 _ _ (by omega)).trans c1) ((cc1.1 _ _ (by omega)).trans c2) lt1 with ⟨e, t2, t2', he, hbit, b1, b2, b3, b4, b5, b6⟩ | ⟨F, t2, t2', b1, b2, b3⟩
    · have cc2 : CO1 t t2 := cc1.tr b5
      have rr2 : RO1 t' t2' := rr1.tr b6
      have hje : j ≠ e := by
        intro z
        rw [Nat.or_comm, or_t, decide_eq_true z, Bool.or_true] at hbit
        cases hbit
      have x2 : t2.2.1 (w + 9) j = nI (V 9 j) := by rw [cc2.2.1]; exact row j hj
      have x3 : t2.2.1 (w + 9) e = nI (V 9 e) := by rw [cc2.2.1]; exact row e he
      have y2 : t2'.2.1 224 (66 + 5 * j) = nI (V 9 j) := by rw [rr2.2]; exact rom j hj
      have y3 : t2'.2.1 224 (66 + 5 * e) = nI (V 9 e) := by rw [rr2.2]; exact rom e he
      have z8 : t2'.1 218 8 = 0 := b4.2.2.2.2.2
      rw [b1, b3]
      simp only [ob_s, ob_2, o01, not_false_eq_true, if_true, z8, not_true_eq_false, if_false]
      rw [tA_e (by omega) (by omega), x2, b2, nN_shl (by omega), tA_e (by omega) (by omega), y2, nN_lm, nN_ad]
      simp only [ob_s]
      rw [nN_or, tW0_e (by omega) (by omega), tW0_e (by omega) (by omega)]
      simp only [ob_s]
      rw [tA_e (by omega) (by omega), uA_o (by omega), x3, tA_e (by omega) (by omega), uA_o (by omega), y3]
      simp only [ob_s]
      rw [nN_or, tW0_e (by omega) (by omega), tW0_e (by omega) (by omega)]
      simp only [ob_s]
      exact vpair hT hw (.inr ⟨rfl, rfl, rfl, rfl, rfl⟩) hb hn hl cc2 rr2 b4 (by omega) hj he hje
    · have z8 := b3.ft.n0
      rw [b1, b2]
      simp only [ob_s, ob_2, not_true_eq_false, if_false, z8, not_false_eq_true, if_true]
      exact b3.vo cc1.vc rr1.vm
  · have a1' : tX4_passDay w 0 T = some (0, t1) := a1
    have a2' : tX10_takeTold 1 20 0 (uI t' 218 7 (nI (k + 1))) = some (0, t1') := a2
    have z8 := a3.ft.n0
    have i0 : (nI 66 + (5 : Int32) * 0) = nI 66 := by decide
    rw [a1', a2']
    simp only [ob_s, ob_2]
    rw [i0, tA_e (by omega) (by omega)]
    simp only [ob_s, ob_2, a3.ft.takeTold, not_true_eq_false, if_false, z8, not_false_eq_true, if_true]
    exact a3.vo e3.co.vc (RO1.wI (.inl rfl)).vm
end
