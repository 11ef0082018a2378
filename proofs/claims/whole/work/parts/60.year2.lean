/-! ===== PURE: year ===== -/
section
variable {v nh nd st a b n m : Nat} {V : Nat → Nat → Nat} {S : Nat → Nat → Int32} {t0 t0' t t' : tS}
variable {c so pl bh : Nat → Nat} {L M k : Nat}
theorem NM.yr {q : Nat} {T T' : tS} {ns : Nat → List Nat} {kd : Nat → Nat} (h : NM v nh nd 227 229 18 ns kd t t') (g : YC q t T) (g' : YM t' T') : NM v nh nd 227 229 18 ns kd T T' := h.ag (fun i => by rw [g.2.2.1]) (fun i => by rw [g.2.2.1]) (g'.1 _ _ (by omega)) (fun i => by rw [g'.2.2]) (fun i => g'.2.1 _ _ (by omega))
/-- the act of a line -/
theorem PC.act (h : PC c L M so pl bh k t t') (hT : TK c L M so pl bh) : (∃ j, j < 4 ∧ tX4_lineAct t = some (nI j) ∧ tX10_wordHere 10 4 t' = some (nI j) ∧ k < M) ∨ (tX4_lineAct t = some (-1) ∧ tX10_wordHere 10 4 t' = some (-1)) := by
  have w0 : tX7_isWord 1000010 t = some (bI (isw c so pl bh k 10)) := h.cw hT (i := 10) (by decide)
  have w1 : tX7_isWord 1000011 t = some (bI (isw c so pl bh k 11)) := h.cw hT (i := 11) (by decide)
  have w2 : tX7_isWord 1000012 t = some (bI (isw c so pl bh k 12)) := h.cw hT (i := 12) (by decide)
  have w3 : tX7_isWord 1000013 t = some (bI (isw c so pl bh k 13)) := h.cw hT (i := 13) (by decide)
  obtain ⟨y, e1, e2⟩ := h.wh hT (f := 10) (m := 4) (by decide)
  have e1' : tX10_wordHere 10 4 t' = some y := e1
  unfold tX4_lineAct
  rw [w0, w1, w2, w3, e1']
  simp only [ob_s, bI_0]
  rcases e2 with ⟨rfl, e2⟩ | ⟨j, j1, rfl, j3⟩
  · have a0 := e2 0 (by omega)
    have a1 := e2 1 (by omega)
    have a2 := e2 2 (by omega)
    have a3 := e2 3 (by omega)
    rw [show 10 + 0 = 10 from rfl] at a0
    rw [show 10 + 1 = 11 from rfl] at a1
    rw [show 10 + 2 = 12 from rfl] at a2
    rw [show 10 + 3 = 13 from rfl] at a3
    simp only [a0, a1, a2, a3, if_true, ob_s]
    exact .inr ⟨trivial, trivial⟩
  · refine .inl ⟨j, j1, ?_, rfl, isw_m hT h.1 j3⟩
    have ot : ∀ i, i < 25 → i ≠ 10 + j → isw c so pl bh k i = false := fun i hi hne => isw_o (by omega) hi j3 hne
    obtain rfl | rfl | rfl | rfl : j = 0 ∨ j = 1 ∨ j = 2 ∨ j = 3 := by omega
    · rw [show 10 + 0 = 10 from rfl] at j3
      simp only [j3, Bool.true_eq_false, if_false]
      rfl
    · rw [show 10 + 1 = 11 from rfl] at j3
      simp only [j3, ot 10 (by omega) (by omega), Bool.true_eq_false, if_false, if_true]
      rfl
    · rw [show 10 + 2 = 12 from rfl] at j3
      simp only [j3, ot 10 (by omega) (by omega), ot 11 (by omega) (by omega), Bool.true_eq_false, if_false, if_true]
      rfl
    · rw [show 10 + 3 = 13 from rfl] at j3
      simp only [j3, ot 10 (by omega) (by omega), ot 11 (by omega) (by omega), ot 12 (by omega) (by omega), Bool.true_eq_false, if_false, if_true, ob_s]
      rfl
theorem yend {n : Int32} {f : Nat} (h : FT t') : tX10_year_L11 (f + 1) n t' = some (n, t') := by
  rw [tX10_year_L11, if_pos h.n0]
set_option maxHeartbeats 8000000 in
/-- one line of a year, in both -/
theorem yline {q n : Nat} {ns : Nat → List Nat} {kd : Nat → Nat} (hT : TK c L M so pl bh) (hq : q = 210 ∨ q = 214) (hv : v = 182 ∨ v = 196) (h : YST c L M so pl bh nh nd q k n t t') (hn : NM v nh nd 227 229 18 ns kd t t') (h4 : nh ≤ 4) (h6 : nd ≤ 6) (c1 : t.1 v 11 = nI nh) (c2 : t.1 v 12 = nI nd) (hs : so k ≠ 0) : (∃ k1 t1 t1', k < k1 ∧ n < 40 ∧ tX4_readPlanLine v q t = some (1, t1) ∧ (∀ f, tX10_year_L11 (f + 1) (nI n) t' = tX10_year_L11 f (nI (n + 1)) t1') ∧ YST c L M so pl bh nh nd q k1 (n + 1) t1 t1' ∧ YC q t t1 ∧ YM t' t1') ∨ (∃ F y t1 t1', tX4_readPlanLine v q t = some (0, t1) ∧ (∀ f, tX10_year_L11 (f + 1 + 1) (nI n) t' = some (y, t1')) ∧ 0 < F ∧ F < 100000 ∧ t1.1 1 7 = nI F ∧ t1'.1 218 8 = nI F ∧ YC q t t1 ∧ YM t' t1') := by
  have h0 := h
  obtain ⟨hp, hn40, hq3, hln⟩ := h
  have hM := hT.2.2.1
  have hL := hT.1
  have so4 := hT.sob hp.1
  have m8 := hp.2.2.2.2.2
  have m7 := hp.2.2.2.2.1
  have z0 : ¬ ¬ (nI 0 : Int32) = 0 := by decide
  have tA0 : tA t' 220 1002 (nI k) = some (nI (so k)) := by rw [tA_e (by have := hp.1; omega) (by omega), (hp.2.2.1 k hp.1).1]
  have s0 : ¬ nI (so k) = 0 := by rw [show (0 : Int32) = nI 0 from rfl, nN_eq (by omega) (by decide)]; exact hs
  unfold tX4_readPlanLine
  have head : ∀ f, tX10_year_L11 (f + 1) (nI n) t' = _ := fun f => by rw [tX10_year_L11, m8, if_neg z0, m7, tA0, ob_s, if_neg s0]
  rcases hp.act hT with ⟨j, j1, a1, a2, a3⟩ | ⟨a1, a2⟩
  · have nj : ¬ nI j = (-1 : Int32) := nN_ne1 (by omega)
    have pj : (0 : Int32) ≤ nI j := (nN_le (a := 0) (b := j) (by decide) (by omega)).2 (Nat.zero_le _)
    rw [a1]
    simp only [ob_s]
    rw [if_pos nj, hq3]
    by_cases cn : n = 40
    · obtain ⟨F, f1, f1', g1, g2, g3⟩ := hp.no hT (kd := 5) (by omega) (by omega)
      have g1' : tX7_refuse 5 t = some (0, f1) := g1
      have g2' : tX10_wrong 5 t' = some f1' := g2
      rw [if_neg (by rw [nN_ltl (by omega) (by decide)]; omega), g1']
      simp only [ob_2, z01_0, ob_s]
      refine .inr ⟨F, nI n, f1, f1', rfl, fun f => ?_, g3.1, g3.2.1, g3.2.2.1, g3.2.2.2.1, g3.2.2.2.2.1.yc, g3.2.2.2.2.2.ym⟩
      rw [tX10_year_L11, m8, if_neg z0, m7, tA0, ob_s, if_neg s0, a2, ob_s, if_pos pj, if_neg (by rw [nN_eql (by omega) (by decide)]; simp [cn]), g2', ob_s, ob_2, g3.ft.takeSign, ob_s, yend g3.ft]
    · have n40 : n < 40 := by omega
      rw [if_pos (by rw [nN_ltl (by omega) (by decide)]; exact n40)]
      obtain ⟨T, e1, e2, e3⟩ := hp.step hT a3
      rw [e1]
      simp only [ob_s]
      have nn : ¬ nI n = (40 : Int32) := by rw [nN_eql (by omega) (by decide)]; exact cn
      -- the reference, up to the first name
      have w125 : ∀ (X : tS) (x : Int32), tWA X 0 231 250 ((125 : Int32) + (3 : Int32) * nI n) x = some (uA X 231 (125 + 3 * n) x) := by
        intro X x
        rw [nN_lm, nN_la, tW0_e (by omega) (by omega)]
      have w126 : ∀ (X : tS) (x : Int32), tWA X 0 231 250 ((125 : Int32) + (3 : Int32) * nI n + (1 : Int32)) x = some (uA X 231 (125 + 3 * n + 1) x) := by
        intro X x
        rw [nN_lm, nN_la, nN_al, tW0_e (by omega) (by omega)]
      have w127 : ∀ (X : tS) (x : Int32), tWA X 0 231 250 ((125 : Int32) + (3 : Int32) * nI n + (2 : Int32)) x = some (uA X 231 (125 + 3 * n + 2) x) := by
        intro X x
        rw [nN_lm, nN_la, nN_al, tW0_e (by omega) (by omega)]
      have p1 : PC c L M so pl bh (k + 1) T (uA (uI t' 218 7 (nI (k + 1))) 231 (125 + 3 * n) (nI j)) := e2.mA
      have y1 : YC q t T := e3.co.yc
      have ym1 : YM t' (uA (uI t' 218 7 (nI (k + 1))) 231 (125 + 3 * n) (nI j)) := ((RO1.wI (.inl rfl)).ym).tr (YM.wA (by omega))
      have n1 := hn.yr y1 ym1
      have d1 : T.1 v 11 = nI nh := (e3.co.1 _ _ (by omega)).trans c1
      have d2 : T.1 v 12 = nI nd := (e3.co.1 _ _ (by omega)).trans c2
      have ref : ∀ f, tX10_year_L11 (f + 1) (nI n) t' = (am_b2 (am_b2 (if ¬ nI j = 0 then Option.bind (if ¬ nI j = (3 : Int32) then some (20 : Int32) else some (0 : Int32)) fun js38 => am_b2 (tX10_takeTold 0 js38 0 (uA (uI t' 218 7 (nI (k + 1))) 231 (125 + 3 * n) (nI j))) fun x41 tt43 => some (x41, tt43) else some ((0 : Int32), uA (uI t' 218 7 (nI (k + 1))) 231 (125 + 3 * n) (nI j))) fun js34 tt36 => am_b2 (if ¬ nI j = (1 : Int32) then some ((0 : Int32), uA tt36 231 (125 + 3 * n + 1) js34) else am_b2 (tX10_takeTold 0 0 0 (uA tt36 231 (125 + 3 * n + 1) js34)) fun x57 tt59 => some (x57, tt59)) fun js52 tt54 => some (nI (n + 1), uA tt54 231 (125 + 3 * n + 2) js52)) fun jv18 tt20 => (tX10_takeSign 59 tt20).bind fun tt77 => tX10_year_L11 f jv18 tt77) := by
        intro f
        rw [tX10_year_L11, m8, if_neg z0, m7, tA0, ob_s, if_neg s0, a2, ob_s, if_pos pj, if_pos nn, nN_al]
        simp only [ob_s, w125, w126, w127, nN_al]
      clear head
      obtain rfl | rfl | rfl | rfl : j = 0 ∨ j = 1 ∨ j = 2 ∨ j = 3 := by omega
      · -- date
        have F1 := yfin (n := n) (x := 0) (y := -1) (z := -1) (a1 := 0) (a2 := 0) (a3 := 0) (T := T) (T' := uA (uA (uA (uI t' 218 7 (nI (k + 1))) 231 (125 + 3 * n) (nI 0)) 231 (125 + 3 * n + 1) 0) 231 (125 + 3 * n + 2) 0) hT hq n40 h0 (e2.mA.mA.mA) y1 e3.co ((ym1.tr (YM.wA (by omega))).tr (YM.wA (by omega))) (fun i hi => by rw [uA_o (by omega), uA_o (by omega), uA_o (by omega)]; rfl) (by rw [uA_o (by omega), uA_o (by omega), uA_s]; rfl) (by rw [uA_o (by omega), uA_s]) uA_s (.inl ⟨rfl, rfl⟩)
        have b1 : ¬ nI 0 = (1 : Int32) := by decide
        have b2 : ¬ nI 0 = (2 : Int32) := by decide
        have b3 : ¬ nI 0 = (3 : Int32) := by decide
        have b0 : nI 0 = (0 : Int32) := rfl
        rw [if_neg b1, if_pos b2, if_pos b3, b0]
        have ref' : ∀ f, tX10_year_L11 (f + 1) (nI n) t' = ((tX10_takeSign 59 (uA (uA (uA (uI t' 218 7 (nI (k + 1))) 231 (125 + 3 * n) (nI 0)) 231 (125 + 3 * n + 1) 0) 231 (125 + 3 * n + 2) 0)).bind fun tt77 => tX10_year_L11 f (nI (n + 1)) tt77) := by
          intro f
          rw [ref f, if_neg (by decide), ob_2, if_pos b1, ob_2, ob_2]
        rcases F1 with ⟨t1, t1', f1, f2, f3, f4, f5⟩ | ⟨F, t1, t1', f1, f2, f3, f4, f5, f6, f7, f8⟩
        · rw [f1]
          exact .inl ⟨_, t1, t1', by omega, n40, rfl, fun f => by rw [ref' f, f2, ob_s], f3, f4, f5⟩
        · rw [f1]
          exact .inr ⟨F, nI (n + 1), t1, t1', rfl, fun f => by rw [ref' (f + 1), f2, ob_s, yend ⟨F, f3, f4, f6⟩], f3, f4, f5, f6, f7, f8⟩
      · -- move
        have b1 : nI 1 = (1 : Int32) := rfl
        have z10 : ¬ (1 : Int32) = 0 := by decide
        have z13 : ¬ (1 : Int32) = 3 := by decide
        rw [b1] at ref p1 ym1 n1 ⊢
        rw [if_pos rfl]
        have pd := p1.pDay hT n1 (.inr ⟨rfl, rfl, rfl, rfl⟩) h4 h6 d1 d2 (B := 0) (by omega)
        have ref1 : ∀ f, tX10_year_L11 (f + 1) (nI n) t' = (am_b2 (am_b2 (am_b2 (tX10_takeTold 0 20 0 (uA (uI t' 218 7 (nI (k + 1))) 231 (125 + 3 * n) 1)) fun x41 tt43 => some (x41, tt43)) fun js34 tt36 => am_b2 (am_b2 (tX10_takeTold 0 0 0 (uA tt36 231 (125 + 3 * n + 1) js34)) fun x57 tt59 => some (x57, tt59)) fun js52 tt54 => some (nI (n + 1), uA tt54 231 (125 + 3 * n + 2) js52)) fun jv18 tt20 => (tX10_takeSign 59 tt20).bind fun tt77 => tX10_year_L11 f jv18 tt77) := by
          intro f
          rw [ref f, if_pos z10, if_pos z13, ob_s]
          simp only [not_true_eq_false, if_false]
        rcases pd with ⟨d, u1, u1', g1, _, g3, g4, g5, g6, g7, g8⟩ | ⟨F, u1, u1', g3, g5, g6⟩
        · have g3' : tX4_passDay v 0 T = some (1, u1) := g3
          have g5' : tX10_takeTold 0 20 0 (uA (uI t' 218 7 (nI (k + 1))) 231 (125 + 3 * n) 1) = some (nI d, u1') := g5
          rw [g3']
          simp only [ob_2]
          rw [if_pos z10, if_pos trivial]
          have yc2 : YC q t u1 := y1.tr g7.yc
          have ym2 : YM t' (uA u1' 231 (125 + 3 * n + 1) (nI d)) := (ym1.tr g8.ym).tr (YM.wA (by omega))
          have ph := (g6.mA (i := 125 + 3 * n + 1) (x := nI d)).pHouse hT (hn.yr yc2 ym2) (.inr ⟨rfl, rfl, rfl, rfl⟩) h4 h6 ((g7.1 _ _ (by omega)).trans d1) ((g7.1 _ _ (by omega)).trans d2) (B := 0) (by omega)
          rcases ph with ⟨g, w1, w1', q1, _, q3, q4, q5, q6, q7, q8⟩ | ⟨F, w1, w1', q3, q5, q6⟩
          · have q3' : tX4_passHouse v 0 u1 = some (1, w1) := q3
            have q5' : tX10_takeTold 0 0 0 (uA u1' 231 (125 + 3 * n + 1) (nI d)) = some (nI g, w1') := q5
            rw [q3']
            simp only [ob_2]
            rw [if_pos z10, g4, q4]
            have r0 : ∀ i, w1'.2.1 231 i = (uA u1' 231 (125 + 3 * n + 1) (nI d)).2.1 231 i := fun i => by rw [q8.2]
            have r9 : ∀ i, u1'.2.1 231 i = (uA (uI t' 218 7 (nI (k + 1))) 231 (125 + 3 * n) 1).2.1 231 i := fun i => by rw [g8.2]
            have F1 := yfin (n := n) (x := 1) (y := nI d) (z := nI g) (a1 := 1) (a2 := nI d) (a3 := nI g) (T := w1) (T' := uA w1' 231 (125 + 3 * n + 2) (nI g)) hT hq n40 h0 q6.mA (yc2.tr q7.yc) ((e3.co.tr g7).tr q7) ((ym2.tr q8.ym).tr (YM.wA (by omega))) (fun i hi => by rw [uA_o (by omega), r0, uA_o (by omega), r9, uA_o (by omega)]; rfl) (by rw [uA_o (by omega), r0, uA_o (by omega), r9, uA_s]) (by rw [uA_o (by omega), r0, uA_s]) uA_s (.inr (.inl ⟨d, g, g1, q1, rfl, rfl, rfl, rfl, rfl, rfl⟩))
            have ref' : ∀ f, tX10_year_L11 (f + 1) (nI n) t' = ((tX10_takeSign 59 (uA w1' 231 (125 + 3 * n + 2) (nI g))).bind fun tt77 => tX10_year_L11 f (nI (n + 1)) tt77) := by
              intro f
              rw [ref1 f, g5']
              simp only [ob_2]
              rw [q5']
              simp only [ob_2]
            rcases F1 with ⟨t1, t1', f1, f2, f3, f4, f5⟩ | ⟨F, t1, t1', f1, f2, f3, f4, f5, f6, f7, f8⟩
            · rw [f1]
              exact .inl ⟨_, t1, t1', by omega, n40, rfl, fun f => by rw [ref' f, f2, ob_s], f3, f4, f5⟩
            · rw [f1]
              exact .inr ⟨F, nI (n + 1), t1, t1', rfl, fun f => by rw [ref' (f + 1), f2, ob_s, yend ⟨F, f3, f4, f6⟩], f3, f4, f5, f6, f7, f8⟩
          · have q3' : tX4_passHouse v 0 u1 = some (0, w1) := q3
            have q5' : tX10_takeTold 0 0 0 (uA u1' 231 (125 + 3 * n + 1) (nI d)) = some (0, w1') := q5
            rw [q3']
            simp only [ob_2]
            rw [if_neg (by decide)]
            have ft : FT (uA w1' 231 (125 + 3 * n + 2) 0) := q6.ft
            refine .inr ⟨F, nI (n + 1), w1, uA w1' 231 (125 + 3 * n + 2) 0, rfl, fun f => ?_, q6.1, q6.2.1, q6.2.2.1, q6.2.2.2.1, yc2.tr q6.2.2.2.2.1.yc, (ym2.tr q6.2.2.2.2.2.ym).tr (YM.wA (by omega))⟩
            rw [ref1 (f + 1), g5']
            simp only [ob_2]
            rw [q5']
            simp only [ob_2]
            rw [ft.takeSign, ob_s, yend ft]
        · have g3' : tX4_passDay v 0 T = some (0, u1) := g3
          have g5' : tX10_takeTold 0 20 0 (uA (uI t' 218 7 (nI (k + 1))) 231 (125 + 3 * n) 1) = some (0, u1') := g5
          rw [g3']
          simp only [ob_2]
          rw [if_neg (by decide)]
          have ft1 : FT (uA u1' 231 (125 + 3 * n + 1) 0) := g6.ft
          have ft : FT (uA (uA u1' 231 (125 + 3 * n + 1) 0) 231 (125 + 3 * n + 2) 0) := g6.ft
          refine .inr ⟨F, nI (n + 1), u1, uA (uA u1' 231 (125 + 3 * n + 1) 0) 231 (125 + 3 * n + 2) 0, rfl, fun f => ?_, g6.1, g6.2.1, g6.2.2.1, g6.2.2.2.1, y1.tr g6.2.2.2.2.1.yc, ((ym1.tr g6.2.2.2.2.2.ym).tr (YM.wA (by omega))).tr (YM.wA (by omega))⟩
          rw [ref1 (f + 1), g5']
          simp only [ob_2]
          rw [ft1.takeTold]
          simp only [ob_2]
          rw [ft.takeSign, ob_s, yend ft]
      · -- send
        have b1 : nI 2 = (2 : Int32) := rfl
        have z20 : ¬ (2 : Int32) = 0 := by decide
        have z21 : ¬ (2 : Int32) = 1 := by decide
        have z23 : ¬ (2 : Int32) = 3 := by decide
        rw [b1] at ref p1 ym1 n1 ⊢
        rw [if_neg z21, if_neg (show ¬ ¬ (2 : Int32) = 2 by decide)]
        have pd := p1.pDay hT n1 (.inr ⟨rfl, rfl, rfl, rfl⟩) h4 h6 d1 d2 (B := 0) (by omega)
        have ref1 : ∀ f, tX10_year_L11 (f + 1) (nI n) t' = (am_b2 (am_b2 (am_b2 (tX10_takeTold 0 20 0 (uA (uI t' 218 7 (nI (k + 1))) 231 (125 + 3 * n) 2)) fun x41 tt43 => some (x41, tt43)) fun js34 tt36 => am_b2 (some ((0 : Int32), uA tt36 231 (125 + 3 * n + 1) js34)) fun js52 tt54 => some (nI (n + 1), uA tt54 231 (125 + 3 * n + 2) js52)) fun jv18 tt20 => (tX10_takeSign 59 tt20).bind fun tt77 => tX10_year_L11 f jv18 tt77) := by
          intro f
          rw [ref f, if_pos z20, if_pos z23, ob_s]
          simp only [z21, not_false_eq_true, if_true]
        rcases pd with ⟨d, u1, u1', g1, _, g3, g4, g5, g6, g7, g8⟩ | ⟨F, u1, u1', g3, g5, g6⟩
        · have g3' : tX4_passDay v 0 T = some (1, u1) := g3
          have g5' : tX10_takeTold 0 20 0 (uA (uI t' 218 7 (nI (k + 1))) 231 (125 + 3 * n) 2) = some (nI d, u1') := g5
          have z10 : ¬ (1 : Int32) = 0 := by decide
          rw [g3']
          simp only [ob_2]
          rw [if_pos z10, if_neg z21, if_pos z23, g4]
          have r9 : ∀ i, u1'.2.1 231 i = (uA (uI t' 218 7 (nI (k + 1))) 231 (125 + 3 * n) 2).2.1 231 i := fun i => by rw [g8.2]
          have F1 := yfin (n := n) (x := 2) (y := nI d) (z := -1) (a1 := 2) (a2 := nI d) (a3 := 0) (T := u1) (T' := uA (uA u1' 231 (125 + 3 * n + 1) (nI d)) 231 (125 + 3 * n + 2) 0) hT hq n40 h0 g6.mA.mA (y1.tr g7.yc) (e3.co.tr g7) (((ym1.tr g8.ym).tr (YM.wA (by omega))).tr (YM.wA (by omega))) (fun i hi => by rw [uA_o (by omega), uA_o (by omega), r9, uA_o (by omega)]; rfl) (by rw [uA_o (by omega), uA_o (by omega), r9, uA_s]) (by rw [uA_o (by omega), uA_s]) uA_s (.inr (.inr (.inl ⟨d, g1, rfl, rfl, rfl, rfl⟩)))
          have ref' : ∀ f, tX10_year_L11 (f + 1) (nI n) t' = ((tX10_takeSign 59 (uA (uA u1' 231 (125 + 3 * n + 1) (nI d)) 231 (125 + 3 * n + 2) 0)).bind fun tt77 => tX10_year_L11 f (nI (n + 1)) tt77) := by
            intro f
            rw [ref1 f, g5']
            simp only [ob_2]
          rcases F1 with ⟨t1, t1', f1, f2, f3, f4, f5⟩ | ⟨F, t1, t1', f1, f2, f3, f4, f5, f6, f7, f8⟩
          · rw [f1]
            exact .inl ⟨_, t1, t1', by omega, n40, rfl, fun f => by rw [ref' f, f2, ob_s], f3, f4, f5⟩
          · rw [f1]
            exact .inr ⟨F, nI (n + 1), t1, t1', rfl, fun f => by rw [ref' (f + 1), f2, ob_s, yend ⟨F, f3, f4, f6⟩], f3, f4, f5, f6, f7, f8⟩
        · have g3' : tX4_passDay v 0 T = some (0, u1) := g3
          have g5' : tX10_takeTold 0 20 0 (uA (uI t' 218 7 (nI (k + 1))) 231 (125 + 3 * n) 2) = some (0, u1') := g5
          rw [g3']
          simp only [ob_2]
          rw [if_neg (by decide)]
          have ft : FT (uA (uA u1' 231 (125 + 3 * n + 1) 0) 231 (125 + 3 * n + 2) 0) := g6.ft
          refine .inr ⟨F, nI (n + 1), u1, uA (uA u1' 231 (125 + 3 * n + 1) 0) 231 (125 + 3 * n + 2) 0, rfl, fun f => ?_, g6.1, g6.2.1, g6.2.2.1, g6.2.2.2.1, y1.tr g6.2.2.2.2.1.yc, ((ym1.tr g6.2.2.2.2.2.ym).tr (YM.wA (by omega))).tr (YM.wA (by omega))⟩
          rw [ref1 (f + 1), g5']
          simp only [ob_2]
          rw [ft.takeSign, ob_s, yend ft]
      · -- build
        have b1 : nI 3 = (3 : Int32) := rfl
        have z30 : ¬ (3 : Int32) = 0 := by decide
        have z31 : ¬ (3 : Int32) = 1 := by decide
        have z32 : ¬ (3 : Int32) = 2 := by decide
        rw [b1] at ref p1 ym1 n1 ⊢
        rw [if_neg z31, if_pos z32, if_neg (show ¬ ¬ (3 : Int32) = 3 by decide)]
        have pd := p1.pHouse hT n1 (.inr ⟨rfl, rfl, rfl, rfl⟩) h4 h6 d1 d2 (B := 0) (by omega)
        have ref1 : ∀ f, tX10_year_L11 (f + 1) (nI n) t' = (am_b2 (am_b2 (am_b2 (tX10_takeTold 0 0 0 (uA (uI t' 218 7 (nI (k + 1))) 231 (125 + 3 * n) 3)) fun x41 tt43 => some (x41, tt43)) fun js34 tt36 => am_b2 (some ((0 : Int32), uA tt36 231 (125 + 3 * n + 1) js34)) fun js52 tt54 => some (nI (n + 1), uA tt54 231 (125 + 3 * n + 2) js52)) fun jv18 tt20 => (tX10_takeSign 59 tt20).bind fun tt77 => tX10_year_L11 f jv18 tt77) := by
          intro f
          rw [ref f, if_pos z30, if_neg (show ¬ ¬ (3 : Int32) = 3 by decide), ob_s]
          simp only [z31, not_false_eq_true, if_true]
        rcases pd with ⟨d, u1, u1', g1, _, g3, g4, g5, g6, g7, g8⟩ | ⟨F, u1, u1', g3, g5, g6⟩
        · have g3' : tX4_passHouse v 0 T = some (1, u1) := g3
          have g5' : tX10_takeTold 0 0 0 (uA (uI t' 218 7 (nI (k + 1))) 231 (125 + 3 * n) 3) = some (nI d, u1') := g5
          have z10 : ¬ (1 : Int32) = 0 := by decide
          rw [g3']
          simp only [ob_2]
          rw [if_pos z10, g4]
          have r9 : ∀ i, u1'.2.1 231 i = (uA (uI t' 218 7 (nI (k + 1))) 231 (125 + 3 * n) 3).2.1 231 i := fun i => by rw [g8.2]
          have F1 := yfin (n := n) (x := 3) (y := -1) (z := nI d) (a1 := 3) (a2 := nI d) (a3 := 0) (T := u1) (T' := uA (uA u1' 231 (125 + 3 * n + 1) (nI d)) 231 (125 + 3 * n + 2) 0) hT hq n40 h0 g6.mA.mA (y1.tr g7.yc) (e3.co.tr g7) (((ym1.tr g8.ym).tr (YM.wA (by omega))).tr (YM.wA (by omega))) (fun i hi => by rw [uA_o (by omega), uA_o (by omega), r9, uA_o (by omega)]; rfl) (by rw [uA_o (by omega), uA_o (by omega), r9, uA_s]) (by rw [uA_o (by omega), uA_s]) uA_s (.inr (.inr (.inr ⟨d, g1, rfl, rfl, rfl, rfl⟩)))
          have ref' : ∀ f, tX10_year_L11 (f + 1) (nI n) t' = ((tX10_takeSign 59 (uA (uA u1' 231 (125 + 3 * n + 1) (nI d)) 231 (125 + 3 * n + 2) 0)).bind fun tt77 => tX10_year_L11 f (nI (n + 1)) tt77) := by
            intro f
            rw [ref1 f, g5']
            simp only [ob_2]
          rcases F1 with ⟨t1, t1', f1, f2, f3, f4, f5⟩ | ⟨F, t1, t1', f1, f2, f3, f4, f5, f6, f7, f8⟩
          · rw [f1]
            exact .inl ⟨_, t1, t1', by omega, n40, rfl, fun f => by rw [ref' f, f2, ob_s], f3, f4, f5⟩
          · rw [f1]
            exact .inr ⟨F, nI (n + 1), t1, t1', rfl, fun f => by rw [ref' (f + 1), f2, ob_s, yend ⟨F, f3, f4, f6⟩], f3, f4, f5, f6, f7, f8⟩
        · have g3' : tX4_passHouse v 0 T = some (0, u1) := g3
          have g5' : tX10_takeTold 0 0 0 (uA (uI t' 218 7 (nI (k + 1))) 231 (125 + 3 * n) 3) = some (0, u1') := g5
          rw [g3']
          simp only [ob_2]
          rw [if_neg (by decide)]
          have ft : FT (uA (uA u1' 231 (125 + 3 * n + 1) 0) 231 (125 + 3 * n + 2) 0) := g6.ft
          refine .inr ⟨F, nI (n + 1), u1, uA (uA u1' 231 (125 + 3 * n + 1) 0) 231 (125 + 3 * n + 2) 0, rfl, fun f => ?_, g6.1, g6.2.1, g6.2.2.1, g6.2.2.2.1, y1.tr g6.2.2.2.2.1.yc, ((ym1.tr g6.2.2.2.2.2.ym).tr (YM.wA (by omega))).tr (YM.wA (by omega))⟩
          rw [ref1 (f + 1), g5']
          simp only [ob_2]
          rw [ft.takeSign, ob_s, yend ft]
  · obtain ⟨F, f1, f1', g1, g2, g3⟩ := hp.no hT (kd := 1) (by omega) (by omega)
    have g1' : tX7_refuse 1 t = some (0, f1) := g1
    have g2' : tX10_wrong 1 t' = some f1' := g2
    rw [a1]
    simp only [ob_s]
    rw [if_neg (not_not_intro trivial), g1']
    simp only [ob_2, z01_0, ob_s]
    refine .inr ⟨F, nI n, f1, f1', rfl, fun f => ?_, g3.1, g3.2.1, g3.2.2.1, g3.2.2.2.1, g3.2.2.2.2.1.yc, g3.2.2.2.2.2.ym⟩
    rw [tX10_year_L11, m8, if_neg z0, m7, tA0, ob_s, if_neg s0, a2, ob_s, if_neg (by decide), g2', ob_s, ob_2, g3.ft.takeSign, ob_s, yend g3.ft]
end
