/-! ===== PURE: a vale is read: every line ===== -/
section
variable {v nh nd st a b n m : Nat} {V : Nat → Nat → Nat} {S : Nat → Nat → Int32} {t0 t0' t t' : tS}
variable {c so pl bh : Nat → Nat} {L M k w : Nat}
theorem vline (hT : TK c L M so pl bh) (hw : w = 182 ∨ w = 196) (h : VST c L M so pl bh w k t t') : VOUT c L M so pl bh w k (tX4_readValeLine w t) ((tX10_readLine t').bind fun tt => tX10_takeSign 59 tt) t t' := by
  have hp := h.1
  have bf : bI false = 0 := by decide
  have bt : ¬ bI true = 0 := by decide
  have w0 : tX7_isWord 1000000 t = some (bI (isw c so pl bh k 0)) := hp.cw hT (i := 0) (by decide)
  have w2 : tX7_isWord 1000002 t = some (bI (isw c so pl bh k 2)) := hp.cw hT (i := 2) (by decide)
  have w3 : tX7_isWord 1000003 t = some (bI (isw c so pl bh k 3)) := hp.cw hT (i := 3) (by decide)
  have w7 : tX7_isWord 1000007 t = some (bI (isw c so pl bh k 7)) := hp.cw hT (i := 7) (by decide)
  have w8 : tX7_isWord 1000008 t = some (bI (isw c so pl bh k 8)) := hp.cw hT (i := 8) (by decide)
  have w9 : tX7_isWord 1000009 t = some (bI (isw c so pl bh k 9)) := hp.cw hT (i := 9) (by decide)
  have n0 : tX10_isWord 0 t' = some (bI (isw c so pl bh k 0)) := hp.mw hT (i := 0) (by decide)
  have n2 : tX10_isWord 2 t' = some (bI (isw c so pl bh k 2)) := hp.mw hT (i := 2) (by decide)
  have n3 : tX10_isWord 3 t' = some (bI (isw c so pl bh k 3)) := hp.mw hT (i := 3) (by decide)
  have n7 : tX10_isWord 7 t' = some (bI (isw c so pl bh k 7)) := hp.mw hT (i := 7) (by decide)
  unfold tX4_readValeLine
  rw [w0]
  simp only [ob_s]
  cases i0 : isw c so pl bh k 0
  · rw [if_pos bf, w2]
    simp only [ob_s]
    rw [i0] at n0
    cases i2 : isw c so pl bh k 2
    · rw [if_pos bf, w3]
      simp only [ob_s]
      rw [i2] at n2
      cases i3 : isw c so pl bh k 3
      · rw [if_pos bf, w7]
        simp only [ob_s]
        rw [i3] at n3
        cases i7 : isw c so pl bh k 7
        · rw [if_pos bf, w8]
          simp only [ob_s]
          rw [i7] at n7
          have rl : tX10_readLine t' = tX10_readOnce t' := by
            unfold tX10_readLine
            rw [n0]
            simp only [ob_s, bf, if_true]
            rw [n3]
            simp only [ob_s, bf, if_true]
            rw [n2]
            simp only [ob_s, bf, if_true]
            rw [n7]
            simp only [ob_s, bf, if_true]
            cases tX10_readOnce t' <;> rfl
          rw [rl]
          cases i8 : isw c so pl bh k 8
          · rw [if_pos bf, w9]
            simp only [ob_s]
            cases i9 : isw c so pl bh k 9
            · rw [if_pos bf]
              obtain ⟨y, y1, y2⟩ := hp.wh hT (f := 8) (m := 2) (by decide)
              have y1' : tX10_wordHere 8 2 t' = some y := y1
              obtain ⟨F, f1, f1', g1, g2, g3⟩ := hp.no hT (kd := 1) (by omega) (by omega)
              have g1' : tX7_refuse 1 t = some (0, f1) := g1
              have g2' : tX10_wrong 1 t' = some f1' := g2
              have nl := g3.ft.nl
              have ym : y = -1 := by
                rcases y2 with ⟨z, _⟩ | ⟨j, j1, _, j3⟩
                · exact z
                · obtain rfl | rfl : j = 0 ∨ j = 1 := by omega
                  · have j3 : isw c so pl bh k 8 = true := j3
                    rw [i8] at j3; cases j3
                  · have j3 : isw c so pl bh k 9 = true := j3
                    rw [i9] at j3; cases j3
              unfold tX10_readOnce
              rw [y1', ym]
              simp only [ob_s]
              rw [if_neg (show ¬ (0 : Int32) ≤ -1 by decide), g1', g2']
              simp only [ob_s, ob_2, z01_0, nl, if_false]
              exact g3.vo VC.rf VM.rf
            · rw [if_neg bt]
              exact (vfades hT hw h i9).z
          · rw [if_neg bt]
            exact (vstays hT hw h i8).z
        · rw [if_neg bt]
          rw [i7] at n7
          have rl : tX10_readLine t' = tX10_readPair 20 16 5 t' := by
            unfold tX10_readLine
            rw [n0]
            simp only [ob_s, bf, if_true]
            rw [n3]
            simp only [ob_s, bf, if_true]
            rw [n2]
            simp only [ob_s, bf, if_true]
            rw [n7]
            simp only [ob_s, bt, if_false]
            cases tX10_readPair 20 16 5 t' <;> rfl
          rw [rl]
          exact (vclash hT hw h i7).z
      · rw [if_neg bt]
        rw [i3] at n3
        have rl : tX10_readLine t' = tX10_readDay t' := by
          unfold tX10_readLine
          rw [n0]
          simp only [ob_s, bf, if_true]
          rw [n3]
          simp only [ob_s, bt, if_false]
          cases tX10_readDay t' <;> rfl
        rw [rl]
        exact (vday hT hw h i3).z
    · rw [if_neg bt]
      have i3 : isw c so pl bh k 3 = false := isw_o (by decide) (by decide) i2 (by decide)
      rw [i2] at n2
      rw [i3] at n3
      have rl : tX10_readLine t' = tX10_readPair 0 5 2 t' := by
        unfold tX10_readLine
        rw [n0]
        simp only [ob_s, bf, if_true]
        rw [n3]
        simp only [ob_s, bf, if_true]
        rw [n2]
        simp only [ob_s, bt, if_false]
        cases tX10_readPair 0 5 2 t' <;> rfl
      rw [rl]
      exact (vlends hT hw h i2).z
  · rw [if_neg bt]
    exact (vhouse hT hw h i0).z
theorem vloop (hT : TK c L M so pl bh) (hw : w = 182 ∨ w = 196) : ∀ (r k i f f' : Nat) (t t' : tS), VST c L M so pl bh w k t t' → i ≤ k → M - k ≤ r → r < f → r + 1 < f' → (∃ k1 t1 t1', tX4_readVale_L10 f w (nI i) t = some (.inl t1) ∧ tX10_vale_L30 f' t' = some t1' ∧ VST c L M so pl bh w k1 t1 t1' ∧ VC w t t1 ∧ VM t' t1') ∨ (∃ F t1 t1', tX4_readVale_L10 f w (nI i) t = some (.inr (nI F, t1)) ∧ tX10_vale_L30 f' t' = some t1' ∧ 0 < F ∧ F < 100000 ∧ t1'.1 218 8 = nI F ∧ VC w t t1 ∧ VM t' t1') := by
  have hM := hT.2.2.1
  have hL := hT.1
  have stop : ∀ (k i f f' : Nat) (t t' : tS), VST c L M so pl bh w k t t' → i ≤ k → so k = 0 → (∃ k1 t1 t1', tX4_readVale_L10 (f + 1) w (nI i) t = some (.inl t1) ∧ tX10_vale_L30 (f' + 1) t' = some t1' ∧ VST c L M so pl bh w k1 t1 t1' ∧ VC w t t1 ∧ VM t' t1') := by
    intro k i f f' t t' h hi hs
    have hp := h.1
    have hk := hp.1
    have tA0 : tA t' 220 1002 (nI k) = some (nI (so k)) := by rw [tA_e (by omega) (by omega), (hp.2.2.1 k hp.1).1]
    have a1 : tX4_readVale_L10 (f + 1) w (nI i) t = some (.inl t) := by
      rw [tX4_readVale_L10]
      by_cases z : 1000 ≤ i
      · rw [if_pos ((nN_lle (by omega) (by decide)).2 z)]
      · rw [if_neg (by rw [nN_lle (by omega) (by decide)]; exact z), hp.ce hT, ob_s, decide_eq_true hs, if_pos (by decide)]
    have a2 : tX10_vale_L30 (f' + 1) t' = some t' := by
      rw [tX10_vale_L30, hp.2.2.2.2.2, if_neg (by decide), hp.2.2.2.2.1, tA0, ob_s, hs, if_pos (show nI 0 = (0 : Int32) from rfl)]
    exact ⟨k, t, t', a1, a2, h, VC.rf, VM.rf⟩
  intro r
  induction r with
  | zero =>
    intro k i f f' t t' h hi hr hf hf'
    obtain ⟨f, rfl⟩ : ∃ g, f = g + 1 := ⟨f - 1, by omega⟩
    obtain ⟨f', rfl⟩ : ∃ g, f' = g + 1 := ⟨f' - 1, by omega⟩
    have hk : k = M := by have := h.1.1; omega
    exact .inl (stop k i f f' t t' h hi (by rw [hk]; exact hT.2.2.2.2.2.1))
  | succ r ih =>
    intro k i f f' t t' h hi hr hf hf'
    obtain ⟨f, rfl⟩ : ∃ g, f = g + 1 := ⟨f - 1, by omega⟩
    obtain ⟨f', rfl⟩ : ∃ g, f' = g + 1 := ⟨f' - 1, by omega⟩
    by_cases hs : so k = 0
    · exact .inl (stop k i f f' t t' h hi hs)
    · have hp := h.1
      have hkM := hT.mlt hp.1 hs
      have so4 := hT.sob hp.1
      have tA0 : tA t' 220 1002 (nI k) = some (nI (so k)) := by rw [tA_e (by omega) (by omega), (hp.2.2.1 k hp.1).1]
      rw [tX4_readVale_L10, if_neg (by rw [nN_lle (by omega) (by decide)]; omega), hp.ce hT, ob_s, decide_eq_false hs, if_neg (by decide), nN_al, tX10_vale_L30, hp.2.2.2.2.2, if_neg (by decide), hp.2.2.2.2.1, tA0, ob_s, if_neg (by rw [show (0 : Int32) = nI 0 from rfl, nN_eq (by omega) (by decide)]; exact hs)]
      have as : ((tX10_readLine t').bind fun tt32 => (tX10_takeSign 59 tt32).bind fun tt35 => tX10_vale_L30 f' tt35) = (((tX10_readLine t').bind fun tt => tX10_takeSign 59 tt).bind fun tt35 => tX10_vale_L30 f' tt35) := by
        cases tX10_readLine t' <;> rfl
      rw [as]
      rcases vline hT hw h with ⟨k1, t1, t1', a0, a1, a2, a3, a4, a5⟩ | ⟨F, t1, t1', a1, a2, a3, a4, a5, a6, a7, a8⟩
      · rw [a1, a2, ob_2, ob_s, if_pos (by decide)]
        rcases ih k1 (i + 1) f f' t1 t1' a3 (by omega) (by omega) (by omega) (by omega) with ⟨k2, t2, t2', b1, b2, b3, b4, b5⟩ | ⟨F, t2, t2', b1, b2, b3, b4, b5, b6, b7⟩
        · exact .inl ⟨k2, t2, t2', b1, b2, b3, a4.tr b4, a5.tr b5⟩
        · exact .inr ⟨F, t2, t2', b1, b2, b3, b4, b5, a4.tr b6, a5.tr b7⟩
      · obtain ⟨f', rfl⟩ : ∃ g, f' = g + 1 := ⟨f' - 1, by omega⟩
        have ft : FT t1' := ⟨F, a3, a4, a6⟩
        rw [a1, a2, ob_2, ob_s, if_neg (by decide), tX10_vale_L30, if_pos ft.n0, a5]
        exact .inr ⟨F, t1, t1', rfl, rfl, a3, a4, a6, a7, a8⟩
theorem saL : ∀ (r i f : Nat) (T : tS), i + r = 50 → r < f → ∃ T1, tX10_standsAsAlways_L2 f (nI 50) (nI i) T = some T1 ∧ T1.1 = T.1 ∧ (∀ b j, ¬ (b = 224 ∧ 50 + i ≤ j ∧ j < 100) → T1.2.1 b j = T.2.1 b j) ∧ T1.2.2 = T.2.2 ∧ ∀ j, i ≤ j → j < 50 → T1.2.1 224 (50 + j) = 0 := by
  intro r
  induction r with
  | zero =>
    intro i f T hi hf
    obtain ⟨f, rfl⟩ : ∃ g, f = g + 1 := ⟨f - 1, by omega⟩
    have c1 : 50 ≤ i := by omega
    rw [tX10_standsAsAlways_L2]
    simp (disch := omega) only [tA_e, tA_l, tW0_e, tW0_l, nN_al, nN_la, nN_ad, nN_lm, nN_ml, nN_le, nN_lt, nN_eq, nN_lel, nN_lle, nN_ltl, nN_llt, nN_eql, nN_rm, nN_dv, ob_s, ob_2, ob_3, ite_true, ite_false, not_true_eq_false, not_false_eq_true, ite_self, eq_self, Nat.add_zero, c1]
    exact ⟨_, rfl, rfl, fun _ _ _ => rfl, rfl, fun j _ _ => by omega⟩
  | succ r ih =>
    intro i f T hi hf
    obtain ⟨f, rfl⟩ : ∃ g, f = g + 1 := ⟨f - 1, by omega⟩
    have c1 : ¬ 50 ≤ i := by omega
    rw [tX10_standsAsAlways_L2]
    simp (disch := omega) only [tA_e, tA_l, tW0_e, tW0_l, nN_al, nN_la, nN_ad, nN_lm, nN_ml, nN_le, nN_lt, nN_eq, nN_lel, nN_lle, nN_ltl, nN_llt, nN_eql, nN_rm, nN_dv, ob_s, ob_2, ob_3, ite_true, ite_false, not_true_eq_false, not_false_eq_true, ite_self, eq_self, Nat.add_zero, c1]
    obtain ⟨T1, e1, e2, e3, e4, e5⟩ := ih (i + 1) f (uA T 224 (50 + i) 0) (by omega) (by omega)
    refine ⟨T1, e1, e2, ?_, e4, ?_⟩
    · intro b j hb
      rw [e3 b j (by omega), uA_o (by omega)]
    · intro j h1 h2
      by_cases e : j = i
      · subst e
        rw [e3 _ _ (by omega), uA_s]
      · exact e5 j (by omega) h2
theorem sa_e : ∃ T1, tX10_standsAsAlways 50 t' = some T1 ∧ T1.1 = t'.1 ∧ (∀ b j, ¬ (b = 224 ∧ 50 ≤ j ∧ j < 100) → T1.2.1 b j = t'.2.1 b j) ∧ T1.2.2 = t'.2.2 ∧ T1.2.1 224 52 = nI 1 ∧ T1.2.1 224 53 = -1 ∧ ∀ j, j ≠ 2 → j ≠ 3 → j < 50 → T1.2.1 224 (50 + j) = nI 0 := by
  obtain ⟨T1, e1, e2, e3, e4, e5⟩ := saL 50 0 4000 t' (by omega) (by omega)
  have e1' : tX10_standsAsAlways_L2 4000 50 0 t' = some T1 := e1
  refine ⟨uA (uA T1 224 52 1) 224 53 (-1), ?_, e2, fun b j hb => ?_, e4, ?_, uA_s, fun j h1 h2 h3 => ?_⟩
  · unfold tX10_standsAsAlways
    rw [e1']
    simp only [ob_s]
    rw [show ((50 : Int32) + 2) = nI 52 by decide, show ((50 : Int32) + 3) = nI 53 by decide, tW0_e (by omega) (by omega)]
    simp only [ob_s]
    rw [tW0_e (by omega) (by omega)]
    rfl
  · rw [uA_o (by omega), uA_o (by omega), e3 b j (by omega)]
  · rw [uA_o (by omega), uA_s]
    rfl
  · rw [uA_o (by omega), uA_o (by omega), e5 j (by omega) h3]
    rfl
end
