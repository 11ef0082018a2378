/-! ===== PURE: a vale is read: a house ===== -/
section
variable {v nh nd st a b n m : Nat} {V : Nat → Nat → Nat} {S : Nat → Nat → Int32} {t0 t0' t t' : tS}
variable {c so pl bh : Nat → Nat} {L M k w : Nat}
theorem FT.ag {t1' : tS} (h : FT t') (e : t1'.1 218 8 = t'.1 218 8) : FT t1' := by
  obtain ⟨F, h1, h2, h3⟩ := h
  exact ⟨F, h1, h2, e.trans h3⟩
theorem addH_e {n : Nat} {x : Int64} {y : Int32} (h : t.1 w 11 = nI n) (hn : n < 4) : tX8_addHouse w x y t = some (uI (uA (uB t (w + 1) n x) (w + 2) n y) w 11 (nI (n + 1))) := by
  have w1 : (uB t (w + 1) n x).1 w 11 = nI n := h
  have w2 : (uA (uB t (w + 1) n x) (w + 2) n y).1 w 11 = nI n := h
  have c1 : ¬ 4 ≤ n := by omega
  unfold tX8_addHouse
  simp (disch := omega) only [tA_e, tA_l, tW0_e, tW0_l, nN_al, nN_la, nN_ad, nN_lm, nN_ml, nN_le, nN_lt, nN_eq, nN_lel, nN_lle, nN_ltl, nN_llt, nN_eql, nN_rm, nN_dv, ob_s, ob_2, ob_3, ite_true, ite_false, not_true_eq_false, not_false_eq_true, ite_self, eq_self, Nat.add_zero, h, c1, w1, w2, tWB_e]
theorem vhouse (hT : TK c L M so pl bh) (hw : w = 182 ∨ w = 196) (h : VST c L M so pl bh w k t t') (hi : isw c so pl bh k 0 = true) : VOUT c L M so pl bh w k (tX4_readHouse w t) ((tX10_readLine t').bind fun tt => tX10_takeSign 59 tt) t t' := by
  have hM := hT.2.2.1
  have hL := hT.1
  obtain ⟨hp, nh, nd, st, V, sb, fb, hb, ⟨ns, kd, hn⟩, hl⟩ := h
  have h4 := hb.1.1
  have h6 := hb.1.2.1
  have c1 := hb.2.1.1
  have c2 := hb.2.1.2.1
  have m50 : t'.2.1 224 (50 + 0) = nI nh := hb.2.2.1.1
  have hkM := isw_m hT hp.1 hi
  have i0 : tX10_isWord 0 t' = some (bI true) := by rw [← hi]; exact hp.mw hT (i := 0) (by decide)
  have tA0 : tA t' 224 100 50 = some (nI nh) := by rw [show (50 : Int32) = nI 50 from rfl, tA_e (by omega) (by omega)]; exact congrArg some m50
  have z1 : ¬ bI true = 0 := by decide
  unfold tX4_readHouse tX10_readLine
  rw [c1, i0]
  simp only [ob_s]
  rw [if_neg z1, tA0]
  simp only [ob_s]
  by_cases hlt : nh < 4
  · rw [if_pos ((nN_ltl (by omega) (by decide)).2 hlt)]
    obtain ⟨T, e1, e2, e3, e4⟩ := nname (a1 := 0) (lim := 4) (ad := 0) (cn := nh) hT hw hp hkM hn h4 h6 c1 c2 (by omega) (by omega) hlt (by omega) (by omega) m50
    rw [e1]
    simp only [ob_s]
    rcases e4 with ⟨t1, q1, q2, q3, q4, q5, q6, q7, q8⟩ | ⟨F, t1, t1', q1, q2, q3⟩
    · have q6' : tX10_readName 0 4 0 t' = _ := q6
      rw [q5, q6']
      simp only [ob_s, ob_2]
      rw [if_neg (show ¬ (1 : Int32) = 0 by decide)]
      unfold tX10_takeAfter
      have fc : VC w t t1 := e3.co.vc.tr q8.vc
      have fm : VM t' (nmS t' (nh + nd) (nL (enc 37 (tw c pl bh (k + 1)) 0)) (nI (0 + nh)) (k + 2) (50 + 0) (nh + 1)) := VM.nm (by omega)
      rcases q7.pWord hT (i := 1) (by decide) with ⟨t2, t2', b1, b2, b3, b4, b5⟩ | ⟨F, t2, t2', b1, b2, b3⟩
      · have b1' : tX7_passWord 1000001 t1 = some (1, t2) := b1
        have b2' : tX10_takeWord 1 _ = some t2' := b2
        rw [b1', b2']
        simp only [ob_s, ob_2]
        rw [if_neg (show ¬ (1 : Int32) = 0 by decide)]
        rcases b3.pNum hT (lo := 1) (hi := 6) (by decide) (by decide) with ⟨n, t3, t3', d0, d1, d2, d3, d4, d5, d6, d7⟩ | ⟨F, t3, t3', d1, d2, d3⟩
        · have d2' : tX7_passNumber 1 6 t2 = some (1, t3) := d2
          have d4' : tX10_takeNumber 1 6 t2' = some (nI n, t3') := d4
          have cc : CO1 t t3 := ((e3.co.tr q8).tr b4).tr d6
          have rr : RO1 (nmS t' (nh + nd) (nL (enc 37 (tw c pl bh (k + 1)) 0)) (nI (0 + nh)) (k + 2) (50 + 0) (nh + 1)) t3' := b5.tr d7
          have x11 : t3.1 w 11 = nI nh := (cc.1 _ _ (by omega)).trans c1
          have x8 : ¬ ¬ t3'.1 218 8 = 0 := by rw [d5.2.2.2.2.2]; decide
          rw [d2', d4']
          simp only [ob_s, ob_2]
          rw [if_pos (show ¬ (1 : Int32) = 0 by decide), if_neg x8, d3, addH_e x11 hlt, nN_lm, show (54 : Int32) = nI 54 from rfl, nN_ad, tW0_e (by omega) (by omega)]
          simp only [ob_s]
          have r4 : ∀ i, t3'.2.1 224 i = if i = 50 then nI (nh + 1) else t'.2.1 224 i := by
            intro i
            rw [rr.2]
            show (uA (uI (uI (uA (uB t' 228 (nh + nd) (nL (enc 37 (tw c pl bh (k + 1)) 0))) 230 (nh + nd) (nI (0 + nh))) 218 19 (nI (nh + nd + 1))) 218 7 (nI (k + 2))) 224 (50 + 0) (nI (nh + 1))).2.1 224 i = _
            rw [uA_2]
            by_cases e : i = 50
            · rw [if_pos ⟨rfl, e⟩, if_pos e]
            · rw [if_neg (by omega), if_neg e]
              show (uA (uB t' 228 (nh + nd) (nL (enc 37 (tw c pl bh (k + 1)) 0))) 230 (nh + nd) (nI (0 + nh))).2.1 224 i = _
              rw [uA_o (by omega)]
              rfl
          have r0 : ∀ b i, b ≠ 230 → b ≠ 224 → t3'.2.1 b i = t'.2.1 b i := by
            intro b i g1 g2
            rw [rr.2]
            show (uA (uI (uI (uA (uB t' 228 (nh + nd) (nL (enc 37 (tw c pl bh (k + 1)) 0))) 230 (nh + nd) (nI (0 + nh))) 218 19 (nI (nh + nd + 1))) 218 7 (nI (k + 2))) 224 (50 + 0) (nI (nh + 1))).2.1 b i = _
            rw [uA_o (by omega)]
            show (uA (uB t' 228 (nh + nd) (nL (enc 37 (tw c pl bh (k + 1)) 0))) 230 (nh + nd) (nI (0 + nh))).2.1 b i = _
            rw [uA_o (by omega)]
            rfl
          have r1 : ∀ j, j ≠ 7 → j ≠ 8 → j ≠ 19 → t3'.1 218 j = t'.1 218 j := by
            intro j g1 g2 g3
            rw [rr.1 _ _ (by omega)]
            show (uI (uI (uA (uB t' 228 (nh + nd) (nL (enc 37 (tw c pl bh (k + 1)) 0))) 230 (nh + nd) (nI (0 + nh))) 218 19 (nI (nh + nd + 1))) 218 7 (nI (k + 2))).1 218 j = _
            rw [uI_o (by omega), uI_o (by omega)]
            rfl
          have r230 : ∀ i, t3'.2.1 230 i = if i = nh + nd then nI nh else t'.2.1 230 i := by
            intro i
            rw [rr.2]
            show (uA (uI (uI (uA (uB t' 228 (nh + nd) (nL (enc 37 (tw c pl bh (k + 1)) 0))) 230 (nh + nd) (nI (0 + nh))) 218 19 (nI (nh + nd + 1))) 218 7 (nI (k + 2))) 224 (50 + 0) (nI (nh + 1))).2.1 230 i = _
            rw [uA_o (by omega)]
            show (uA (uB t' 228 (nh + nd) (nL (enc 37 (tw c pl bh (k + 1)) 0))) 230 (nh + nd) (nI (0 + nh))).2.1 230 i = _
            rw [uA_2, Nat.zero_add]
            by_cases e : i = nh + nd
            · rw [if_pos ⟨rfl, e⟩, if_pos e]
            · rw [if_neg (by omega), if_neg e]
              rfl
          have r228 : ∀ i, t3'.2.2.1 228 i = if i = nh + nd then nL (enc 37 (tw c pl bh (k + 1)) 0) else t'.2.2.1 228 i := by
            intro i
            rw [rr.2]
            show (uB t' 228 (nh + nd) (nL (enc 37 (tw c pl bh (k + 1)) 0))).2.2.1 228 i = _
            rw [uB_2]
            by_cases e : i = nh + nd
            · rw [if_pos ⟨rfl, e⟩, if_pos e]
            · rw [if_neg (by omega), if_neg e]
          have r19 : t3'.1 218 19 = nI (nh + nd + 1) := by
            rw [rr.1 _ _ (by omega)]
            show (uI (uI (uA (uB t' 228 (nh + nd) (nL (enc 37 (tw c pl bh (k + 1)) 0))) 230 (nh + nd) (nI (0 + nh))) 218 19 (nI (nh + nd + 1))) 218 7 (nI (k + 2))).1 218 19 = _
            rw [uI_o (by omega), uI_s]
          have nm6 : T.2.2.2.1 1 6 = nL (enc 32 (tw c pl bh (k + 1)) 0) := q2
          rw [nm6]
          have pc4 : PC c L M so pl bh (k + 2 + 1 + 1) (uI (uA (uB t3 (w + 1) nh (nL (enc 32 (tw c pl bh (k + 1)) 0))) (w + 2) nh (nI n)) w 11 (nI (nh + 1))) (uA t3' 224 (54 + 2 * nh) (nI n)) := by
            refine d5.ag (fun j _ => ?_) (fun i => ?_) rfl rfl rfl (fun i => uA_o (by omega)) (fun i => uA_o (by omega)) (fun _ => rfl) (fun _ => rfl)
            · rw [uI_o (by omega)]
              rfl
            · show (uA (uB t3 (w + 1) nh (nL (enc 32 (tw c pl bh (k + 1)) 0))) (w + 2) nh (nI n)).2.1 2 i = _
              rw [uA_o (by omega)]
              rfl
          obtain ⟨V1, hV⟩ := hb.house (n := n) (t1 := uI (uA (uB t3 (w + 1) nh (nL (enc 32 (tw c pl bh (k + 1)) 0))) (w + 2) nh (nI n)) w 11 (nI (nh + 1))) (t1' := uA t3' 224 (54 + 2 * nh) (nI n)) hlt d0 d1 uI_s ((uI_o (by omega)).trans (cc.1 _ _ (by omega))) ((uI_o (by omega)).trans (cc.1 _ _ (by omega))) (fun j hj => by
              show (uA (uB t3 (w + 1) nh (nL (enc 32 (tw c pl bh (k + 1)) 0))) (w + 2) nh (nI n)).2.1 (w + 2) j = _
              rw [uA_o (by omega)]
              show t3.2.1 (w + 2) j = _
              rw [cc.2.1]) (by
              show (uA (uB t3 (w + 1) nh (nL (enc 32 (tw c pl bh (k + 1)) 0))) (w + 2) nh (nI n)).2.1 (w + 2) nh = _
              exact uA_s) (fun b i g1 g2 => by
              show (uA (uB t3 (w + 1) nh (nL (enc 32 (tw c pl bh (k + 1)) 0))) (w + 2) nh (nI n)).2.1 b i = _
              rw [uA_o (by omega)]
              show t3.2.1 b i = _
              rw [cc.2.1]) (fun i g1 g2 => by rw [uA_o (by omega), r4, if_neg g1]) (by rw [uA_o (by omega), r4, if_pos rfl]) uA_s
          obtain ⟨ns1, kd1, hN⟩ := hn.house (x := tw c pl bh (k + 1)) (t1 := uI (uA (uB t3 (w + 1) nh (nL (enc 32 (tw c pl bh (k + 1)) 0))) (w + 2) nh (nI n)) w 11 (nI (nh + 1))) (t1' := uA t3' 224 (54 + 2 * nh) (nI n)) q3 q4 h4 (fun i hi => by
              show (uB t3 (w + 1) nh (nL (enc 32 (tw c pl bh (k + 1)) 0))).2.2.1 (w + 1) i = _
              rw [uB_o (by omega), cc.2.2.1]) (by
              show (uB t3 (w + 1) nh (nL (enc 32 (tw c pl bh (k + 1)) 0))).2.2.1 (w + 1) nh = _
              exact uB_s) (fun i => by
              show (uB t3 (w + 1) nh (nL (enc 32 (tw c pl bh (k + 1)) 0))).2.2.1 (w + 4) i = _
              rw [uB_o (by omega), cc.2.2.1]) r19 (fun i hi => (r228 i).trans (if_neg hi)) ((r228 _).trans (if_pos rfl)) (fun i hi => by rw [uA_o (by omega), r230, if_neg hi]) (by rw [uA_o (by omega), r230, if_pos rfl])
          have hl1 : VL w (k + 2 + 1 + 1) sb fb (uI (uA (uB t3 (w + 1) nh (nL (enc 32 (tw c pl bh (k + 1)) 0))) (w + 2) nh (nI n)) w 11 (nI (nh + 1))) (uA t3' 224 (54 + 2 * nh) (nI n)) := by
            refine hl.ag (by omega) ((uI_o (by omega)).trans (cc.1 _ _ (by omega))) ((uI_o (by omega)).trans (cc.1 _ _ (by omega))) ((uI_o (by omega)).trans (cc.1 _ _ (by omega))) (fun i => ?_) (r1 _ (by omega) (by omega) (by omega)) (r1 _ (by omega) (by omega) (by omega)) ?_ (fun i => ?_) (fun i => ?_)
            · show (uA (uB t3 (w + 1) nh (nL (enc 32 (tw c pl bh (k + 1)) 0))) (w + 2) nh (nI n)).2.1 (w + 12) i = _
              rw [uA_o (by omega)]
              show t3.2.1 (w + 12) i = _
              rw [cc.2.1]
            · rw [uA_o (by omega), r4, if_neg (by decide)]
            · rw [uA_o (by omega), r0 _ _ (by omega) (by omega)]
            · rw [uA_o (by omega), r0 _ _ (by omega) (by omega)]
          refine vend hT hw pc4 (by omega) hV hN hl1 (cc.vc.tr ((VC.wB (.inl rfl)).tr ((VC.wA (by omega)).tr VC.wI))) ((fm.tr rr.vm).tr (VM.wA (.inl ⟨rfl, by omega⟩)))
        · have d1' : tX7_passNumber 1 6 t2 = some (0, t3) := d1
          have d2' : tX10_takeNumber 1 6 t2' = some (0, t3') := d2
          rw [d1', d2']
          simp only [ob_s, ob_2, not_true_eq_false, if_false]
          rw [if_pos d3.ft.n0]
          exact d3.vo (fc.tr b4.vc) (fm.tr b5.vm)
      · have b1' : tX7_passWord 1000001 t1 = some (0, t2) := b1
        have b2' : tX10_takeWord 1 _ = some t2' := b2
        rw [b1', b2']
        simp only [ob_s, ob_2]
        rw [b3.ft.takeNumber]
        simp only [ob_s, ob_2, if_true]
        rw [if_pos b3.ft.n0]
        exact b3.vo fc fm
    · have q2' : tX10_readName 0 4 0 t' = _ := q2
      rw [q1, q2']
      simp only [ob_s, ob_2]
      rw [q3.ft.takeAfter]
      simp only [ob_s, ob_2, if_true]
      rw [if_pos q3.ft.n0]
      exact q3.vo e3.co.vc VM.rf
  · have e4 : nh = 4 := by omega
    obtain ⟨F, f1, f1', g1, g2, g3⟩ := hp.no hT (kd := 5) (by omega) (by omega)
    have g1' : tX7_refuse 5 t = some (0, f1) := g1
    have g2' : tX10_wrong 5 t' = some f1' := g2
    have tA1 : tA t' 224 100 ((50 : Int32) + 0) = some 4 := by
      rw [Int32.add_zero, tA0, e4]; rfl
    unfold tX10_readName
    rw [if_neg (by rw [nN_ltl (by omega) (by decide)]; omega), g1', tA1]
    simp only [ob_s, ob_2, z01_0, not_true_eq_false, if_false, g2']
    rw [g3.ft.takeAfter]
    simp only [ob_s, ob_2]
    rw [if_pos g3.ft.n0]
    exact g3.vo VC.rf VM.rf
end
