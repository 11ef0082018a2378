/-! ===== PURE: a vale is read: a day's line ===== -/
section
variable {v nh nd st a b n m : Nat} {V : Nat → Nat → Nat} {S : Nat → Nat → Int32} {t0 t0' t t' : tS}
variable {c so pl bh : Nat → Nat} {L M k w : Nat}
/-- the house of a day, whose name the reference already keeps -/
theorem dayH (hT : TK c L M so pl bh) (hw : w = 182 ∨ w = 196) (hb : VB w nh nd st V t t') {ns : Nat → List Nat} {kd : Nat → Nat} (hn : NM w nh nd 228 230 19 ns kd t t') {x : List Nat} {k1 k2 : Nat} {T T' : tS} (hlt : nd < 6) (hx : IW x) (hnew : ∀ i, i < nh + nd → ¬ ns i = x) (cc : CO1 t T) (rr : RO1 (nmS t' (nh + nd) (nL (enc 37 x 0)) (nI (20 + nd)) k2 51 (nd + 1)) T') (hp : PC c L M so pl bh k1 T T') : (∃ j t1 t1', j < nh ∧ tX4_passHouse w 0 T = some (1, t1) ∧ t1.1 1 8 = nI j ∧ tX10_takeTold 1 0 0 T' = some (nI j, t1') ∧ PC c L M so pl bh (k1 + 1) t1 t1' ∧ CO1 T t1 ∧ RO1 T' t1') ∨ (∃ F t1 t1', tX4_passHouse w 0 T = some (0, t1) ∧ tX10_takeTold 1 0 0 T' = some (0, t1') ∧ NOx F T T' t1 t1') := by
  have h4 := hb.1.1
  have c1 : T.1 w 11 = nI nh := (cc.1 _ _ (by omega)).trans hb.2.1.1
  obtain ⟨r1, r2, r3, r4, r5, r6, r7, r8, r9, r10⟩ := nmS_f rr
  obtain ⟨TF, hTF⟩ : ∃ X, X = uI (uB T (w + 4) nd (nL (enc 32 x 0))) w 12 (nI (nd + 1)) := ⟨_, rfl⟩
  obtain ⟨ns1, kd1, hN⟩ := hn.day (x := x) (t1 := TF) (t1' := T') hx hnew h4 (fun i hi => by rw [hTF]; simp (disch := omega) only [uA_s, uA_o, uI_s, uI_o, uB_s, uB_o, uI_2, uA_1, uA_3, uB_1, uB_a, uB_3]; rw [cc.2.2.1]) (by rw [hTF]; simp (disch := omega) only [uA_s, uA_o, uI_s, uI_o, uB_s, uB_o, uI_2, uA_1, uA_3, uB_1, uB_a, uB_3]) (fun i => by rw [hTF]; simp (disch := omega) only [uA_s, uA_o, uI_s, uI_o, uB_s, uB_o, uI_2, uA_1, uA_3, uB_1, uB_a, uB_3]; rw [cc.2.2.1]) r5 r8 r9 r6 r7
  have pc : PC c L M so pl bh k1 TF T' := by
    refine hp.ag (fun j _ => ?_) (fun i => ?_) ?_ rfl rfl (fun _ => rfl) (fun _ => rfl) (fun _ => rfl) (fun _ => rfl)
    · rw [hTF]; simp (disch := omega) only [uA_s, uA_o, uI_s, uI_o, uB_s, uB_o, uI_2, uA_1, uA_3, uB_1, uB_a, uB_3]
    · rw [hTF]; simp (disch := omega) only [uA_s, uA_o, uI_s, uI_o, uB_s, uB_o, uI_2, uA_1, uA_3, uB_1, uB_a, uB_3]
    · rw [hTF]; simp (disch := omega) only [uA_s, uA_o, uI_s, uI_o, uB_s, uB_o, uI_2, uA_1, uA_3, uB_1, uB_a, uB_3]
  have d1 : TF.1 w 11 = nI nh := by rw [hTF]; simp (disch := omega) only [uA_s, uA_o, uI_s, uI_o, uB_s, uB_o, uI_2, uA_1, uA_3, uB_1, uB_a, uB_3]; exact c1
  have d2 : TF.1 w 12 = nI (nd + 1) := by rw [hTF]; simp (disch := omega) only [uA_s, uA_o, uI_s, uI_o, uB_s, uB_o, uI_2, uA_1, uA_3, uB_1, uB_a, uB_3]
  have d6 : TF.2.2.2.1 1 6 = T.2.2.2.1 1 6 := by rw [hTF]; simp (disch := omega) only [uA_s, uA_o, uI_s, uI_o, uB_s, uB_o, uI_2, uA_1, uA_3, uB_1, uB_a, uB_3]
  have ag : ∀ y, tX8_houseNamed w y TF = tX8_houseNamed w y T := fun y => hn_ag (by rw [d1, c1]) (fun i => by rw [hTF]; simp (disch := omega) only [uA_s, uA_o, uI_s, uI_o, uB_s, uB_o, uI_2, uA_1, uA_3, uB_1, uB_a, uB_3]) c1 h4
  have key : ∃ r x, tX8_houseNamed w (T.2.2.2.1 1 6) T = some r ∧ (nmb c so pl bh k1 = true → tX10_nameAt 1 T' = some x) ∧ (nmb c so pl bh k1 = true → (∃ j, j < nh ∧ r = nI j ∧ x - 0 = nI j) ∨ (r = -1 ∧ ¬ decide ((0 : Int32) ≤ x - 0 ∧ x - 0 ≤ 5) = true)) := by
    cases hb2 : nmb c so pl bh k1
    · rcases hn_e (x := T.2.2.2.1 1 6) c1 h4 with ⟨j, _, _, e3⟩ | ⟨_, e2⟩
      · exact ⟨_, 0, e3, fun z => absurd z (by decide), fun z => absurd z (by decide)⟩
      · exact ⟨_, 0, e2, fun z => absurd z (by decide), fun z => absurd z (by decide)⟩
    · have lk := hN.look (fl := 1) (.inl ⟨rfl, rfl, rfl, rfl⟩) h4 (by omega) d1 d2 pc hT (nmb_1 hb2)
      rw [d6, ag] at lk
      rcases lk with ⟨j, a1, a2, a3, a4⟩ | ⟨j, a1, a2, a3, a4⟩ | ⟨_, a2, a3, a4⟩
      · exact ⟨_, _, a2, fun _ => a4, fun _ => .inl ⟨j, a1, rfl, Int32.sub_zero _⟩⟩
      · refine ⟨_, _, a2, fun _ => a4, fun _ => .inr ⟨rfl, ?_⟩⟩
        rw [Int32.sub_zero, decide_eq_true_eq, show (5 : Int32) = nI 5 from rfl, nN_le (by omega) (by omega)]
        omega
      · exact ⟨_, _, a2, fun _ => a4, fun _ => .inr ⟨rfl, by decide⟩⟩
  obtain ⟨r, y, k1', k2', k3'⟩ := key
  rcases hp.pHouseK (B := 0) hT h4 (by omega) k1' k2' k3' with ⟨j, t1, t1', e1, e2, e3, e4, e5, e6⟩ | e
  · exact .inl ⟨j, t1, t1', e1, e3, e4, e5, e6⟩
  · exact .inr e
theorem vday (hT : TK c L M so pl bh) (hw : w = 182 ∨ w = 196) (h : VST c L M so pl bh w k t t') (hi : isw c so pl bh k 3 = true) : VOUT c L M so pl bh w k (tX4_readDay w t) ((tX10_readDay t').bind fun tt => tX10_takeSign 59 tt) t t' := by
  have hM := hT.2.2.1
  have hL := hT.1
  obtain ⟨hp, nh, nd, st, V, sb, fb, hb, ⟨ns, kd, hn⟩, hl⟩ := h
  have h4 := hb.1.1
  have h6 := hb.1.2.1
  have c1 := hb.2.1.1
  have c2 := hb.2.1.2.1
  have m51 : t'.2.1 224 (50 + 1) = nI nd := hb.2.2.1.2.1
  have hkM := isw_m hT hp.1 hi
  have tA0 : tA t' 224 100 51 = some (nI nd) := by rw [show (51 : Int32) = nI 51 from rfl, tA_e (by omega) (by omega)]; exact congrArg some m51
  have o01 : ¬ (1 : Int32) = 0 := by decide
  unfold tX4_readDay tX10_readDay
  rw [c2, tA0]
  simp only [ob_s]
  by_cases hlt : nd < 6
  · rw [if_pos ((nN_ltl (by omega) (by decide)).2 hlt)]
    obtain ⟨T, e1, e2, e3, e4⟩ := nname (a1 := 1) (lim := 6) (ad := 20) (cn := nd) hT hw hp hkM hn h4 h6 c1 c2 (by omega) (by omega) hlt (by omega) (by omega) m51
    rw [e1]
    simp only [ob_s]
    rcases e4 with ⟨t1, q1, q2, q3, q4, q5, q6, q7, q8⟩ | ⟨F, t1, t1', q1, q2, q3⟩
    · obtain ⟨s1, hs1⟩ : ∃ X, X = nmS t' (nh + nd) (nL (enc 37 (tw c pl bh (k + 1)) 0)) (nI (20 + nd)) (k + 2) (50 + 1) (nd + 1) := ⟨_, rfl⟩
      have q6' : tX10_readName 1 6 20 t' = some s1 := by rw [hs1]; exact q6
      rw [← hs1] at q7
      have rr0 : RO1 (nmS t' (nh + nd) (nL (enc 37 (tw c pl bh (k + 1)) 0)) (nI (20 + nd)) (k + 2) 51 (nd + 1)) s1 := by rw [hs1]; exact RO1.rf
      have fm : VM t' s1 := by rw [hs1]; exact VM.nm (by omega)
      have cc1 : CO1 t t1 := e3.co.tr q8
      rw [q5, q6', q2]
      simp only [ob_s, ob_2, o01, if_false]
      rcases q7.kind hT with ⟨j5, t2, t2', h5, b1, b2, b3, b4, b5, b6⟩ | ⟨F, t2, t2', b1, b2, b3⟩
      · have cc2 := cc1.tr b5
        have rr2 := rr0.tr b6
        rw [b1, b3]
        simp only [ob_s, ob_2, o01, not_false_eq_true, if_true, if_false]
        rcases b4.pWord hT (i := 4) (by decide) with ⟨t3, t3', d1, d2, d3, d4, d5⟩ | ⟨F, t3, t3', d1, d2, d3⟩
        · have d1' : tX7_passWord 1000004 t2 = some (1, t3) := d1
          have d2' : tX10_takeWord 4 t2' = some t3' := d2
          have cc3 := cc2.tr d4
          have rr3 := rr2.tr d5
          rw [d1', d2']
          simp only [ob_s, ob_2, o01, not_false_eq_true, if_true, if_false]
          rcases dayH hT hw hb hn hlt q3 q4 cc3 rr3 d3 with ⟨j6, t4, t4', h6', f1, f2, f3, f4, f5, f6⟩ | ⟨F, t4, t4', f1, f2, f3⟩
          · have cc4 := cc3.tr f5
            have rr4 := rr3.tr f6
            rw [f1, f3]
            unfold tX10_takeAfter
            simp only [ob_s, ob_2, o01, not_false_eq_true, if_true, if_false]
            rcases f4.pWord hT (i := 5) (by decide) with ⟨t5, t5', g1, g2, g3, g4, g5⟩ | ⟨F, t5, t5', g1, g2, g3⟩
            · have g1' : tX7_passWord 1000005 t4 = some (1, t5) := g1
              have g2' : tX10_takeWord 5 t4' = some t5' := g2
              have cc5 := cc4.tr g4
              have rr5 := rr4.tr g5
              rw [g1', g2']
              simp only [ob_s, ob_2, o01, not_false_eq_true, if_true, if_false]
              rcases g3.pNum hT (lo := 0) (hi := 11) (by decide) (by decide) with ⟨j7, t6, t6', n0, n1, n2, n3, n4, n5, n6, n7⟩ | ⟨F, t6, t6', n1, n2, n3⟩
              · have n2' : tX7_passNumber 0 11 t5 = some (1, t6) := n2
                have n4' : tX10_takeNumber 0 11 t5' = some (nI j7, t6') := n4
                have cc6 := cc5.tr n6
                have rr6 := rr5.tr n7
                rw [n2', n4']
                simp only [ob_s, ob_2, o01, not_false_eq_true, if_true, if_false]
                rcases n5.pWord hT (i := 6) (by decide) with ⟨t7, t7', u1, u2, u3, u4, u5⟩ | ⟨F, t7, t7', u1, u2, u3⟩
                · have u1' : tX7_passWord 1000006 t6 = some (1, t7) := u1
                  have u2' : tX10_takeWord 6 t6' = some t7' := u2
                  have cc7 := cc6.tr u4
                  have rr7 := rr6.tr u5
                  rw [u1', u2']
                  simp only [ob_s, ob_2, o01, not_false_eq_true, if_true, if_false]
                  rcases u3.pNum hT (lo := 0) (hi := 40) (by decide) (by decide) with ⟨j8, t8, t8', p0, p1, p2, p3, p4, p5, p6, p7⟩ | ⟨F, t8, t8', p1, p2, p3⟩
                  · have p2' : tX7_passNumber 0 40 t7 = some (1, t8) := p2
                    have p4' : tX10_takeNumber 0 40 t7' = some (nI j8, t8') := p4
                    have z8 : t8'.1 218 8 = 0 := p5.2.2.2.2.2
                    rw [p2', p4', b2, f2, n3]
                    simp only [ob_s, ob_2, o01, not_false_eq_true, if_true, if_false, z8, not_true_eq_false]
                    rw [p3]
                    have := dayF hT hw hb hn hl (j5 := j5) (j6 := j6) (j7 := j7) (j8 := j8) hlt q3 q4 (cc7.tr p6) (rr7.tr p7) p5 (by omega) h5 h6' (by omega) p1
                    simp (disch := omega) only [tA_e, tA_l, tW0_e, tW0_l, nN_al, nN_la, nN_ad, nN_lm, nN_ml, nN_le, nN_lt, nN_eq, nN_lel, nN_lle, nN_ltl, nN_llt, nN_eql, nN_rm, nN_dv, ob_s, ob_2, ob_3, ite_true, ite_false, not_true_eq_false, not_false_eq_true, ite_self, eq_self, Nat.add_zero]
                    exact this
                  · have p1' : tX7_passNumber 0 40 t7 = some (0, t8) := p1
                    have p2' : tX10_takeNumber 0 40 t7' = some (0, t8') := p2
                    have z8 := p3.ft.n0
                    rw [p1', p2']
                    simp only [ob_s, ob_2, not_true_eq_false, if_false, z8, not_false_eq_true, if_true]
                    exact p3.vo cc7.vc (fm.tr ((RO1.tr (by rw [hs1]; exact RO1.rf) rr7).vm))
                · have u1' : tX7_passWord 1000006 t6 = some (0, t7) := u1
                  have u2' : tX10_takeWord 6 t6' = some t7' := u2
                  have z8 := u3.ft.n0
                  rw [u1', u2']
                  simp only [ob_s, ob_2, u3.ft.takeNumber, not_true_eq_false, if_false, z8, not_false_eq_true, if_true]
                  exact u3.vo cc6.vc (fm.tr ((RO1.tr (by rw [hs1]; exact RO1.rf) rr6).vm))
              · have n1' : tX7_passNumber 0 11 t5 = some (0, t6) := n1
                have n2' : tX10_takeNumber 0 11 t5' = some (0, t6') := n2
                have z8 := n3.ft.n0
                rw [n1', n2']
                simp only [ob_s, ob_2, n3.ft.takeNumber, n3.ft.takeWord, not_true_eq_false, if_false, z8, not_false_eq_true, if_true]
                exact n3.vo cc5.vc (fm.tr ((RO1.tr (by rw [hs1]; exact RO1.rf) rr5).vm))
            · have g1' : tX7_passWord 1000005 t4 = some (0, t5) := g1
              have g2' : tX10_takeWord 5 t4' = some t5' := g2
              have z8 := g3.ft.n0
              rw [g1', g2']
              simp only [ob_s, ob_2, g3.ft.takeNumber, g3.ft.takeWord, not_true_eq_false, if_false, z8, not_false_eq_true, if_true]
              exact g3.vo cc4.vc (fm.tr ((RO1.tr (by rw [hs1]; exact RO1.rf) rr4).vm))
          · have z8 := f3.ft.n0
            rw [f1, f2]
            simp only [ob_s, ob_2, f3.ft.takeAfter, not_true_eq_false, if_false, z8, not_false_eq_true, if_true]
            exact f3.vo cc3.vc (fm.tr ((RO1.tr (by rw [hs1]; exact RO1.rf) rr3).vm))
        · have d1' : tX7_passWord 1000004 t2 = some (0, t3) := d1
          have d2' : tX10_takeWord 4 t2' = some t3' := d2
          have z8 := d3.ft.n0
          rw [d1', d2']
          simp only [ob_s, ob_2, d3.ft.takeAfter, d3.ft.takeTold, not_true_eq_false, if_false, z8, not_false_eq_true, if_true]
          exact d3.vo cc2.vc (fm.tr ((RO1.tr (by rw [hs1]; exact RO1.rf) rr2).vm))
      · have z8 := b3.ft.n0
        rw [b1, b2]
        simp only [ob_s, ob_2, b3.ft.takeAfter, b3.ft.takeTold, b3.ft.takeWord, not_true_eq_false, if_false, z8, not_false_eq_true, if_true]
        exact b3.vo cc1.vc fm
    · have q2' : tX10_readName 1 6 20 t' = _ := q2
      have z8 := q3.ft.n0
      rw [q1, q2']
      simp only [ob_s, ob_2, q3.ft.takeOne, q3.ft.takeAfter, q3.ft.takeTold, q3.ft.takeWord, not_true_eq_false, if_false, z8, not_false_eq_true, if_true]
      exact q3.vo e3.co.vc VM.rf
  · have e4 : nd = 6 := by omega
    obtain ⟨F, f1, f1', g1, g2, g3⟩ := hp.no hT (kd := 5) (by omega) (by omega)
    have g1' : tX7_refuse 5 t = some (0, f1) := g1
    have g2' : tX10_wrong 5 t' = some f1' := g2
    have tA1 : tA t' 224 100 ((50 : Int32) + 1) = some 6 := by
      rw [show (50 : Int32) + 1 = 51 by decide, tA0, e4]; rfl
    have z8 := g3.ft.n0
    unfold tX10_readName
    rw [if_neg (by rw [nN_ltl (by omega) (by decide)]; omega), g1', tA1]
    simp only [ob_s, ob_2, z01_0, not_true_eq_false, if_false, g2', g3.ft.takeOne, g3.ft.takeAfter, g3.ft.takeTold, g3.ft.takeWord, z8, not_false_eq_true, if_true]
    exact g3.vo VC.rf VM.rf
end
