/-! ===== PURE: a vale is read: stays, fades; a line ===== -/
section
variable {v nh nd st a b n m : Nat} {V : Nat → Nat → Nat} {S : Nat → Nat → Int32} {t0 t0' t t' : tS}
variable {c so pl bh : Nat → Nat} {L M k w : Nat}
theorem once_b : ∀ sb < 2, ∀ fb < 2, (((nI (sb + 2 * fb) >>> (nI 0 &&& 31)) &&& (1 : Int32) = 1) ↔ sb = 1) ∧ (((nI (sb + 2 * fb) >>> (nI 1 &&& 31)) &&& (1 : Int32) = 1) ↔ fb = 1) := by decide
theorem once_s : ∀ b < 2, nI (0 + 2 * b) ||| ((1 : Int32) <<< (nI 0 &&& 31)) = nI (1 + 2 * b) ∧ nI (b + 2 * 0) ||| ((1 : Int32) <<< (nI 1 &&& 31)) = nI (b + 2 * 1) := by decide
theorem VB.stay {n : Nat} {t1 t1' : tS} (h : VB w nh nd st V t t') (n1 : 1 ≤ n) (n4 : n ≤ 4) (a1 : t1.1 w 11 = t.1 w 11) (a2 : t1.1 w 12 = t.1 w 12) (a3 : t1.1 w 13 = nI n) (e1 : t1.2.1 = t.2.1) (m1 : ∀ i, i ≠ 52 → t1'.2.1 224 i = t'.2.1 224 i) (m2 : t1'.2.1 224 52 = nI n) : VB w nh nd n V t1 t1' := by
  obtain ⟨⟨k1, k2, k3, k4, k5⟩, ⟨v1, v2, v3, v4⟩, ⟨r1, r2, r3, r4, r5, r6, r7, r8, r9, r10⟩, z1, z2⟩ := h
  refine ⟨⟨k1, k2, n1, n4, k5⟩, ⟨a1.trans v1, a2.trans v2, a3, ?_⟩, ⟨(m1 _ (by omega)).trans r1, (m1 _ (by omega)).trans r2, m2, fun j hj => (m1 _ (by omega)).trans (r4 j hj), fun j hj => (m1 _ (by omega)).trans (r5 j hj), fun j hj => (m1 _ (by omega)).trans (r6 j hj), fun j hj => (m1 _ (by omega)).trans (r7 j hj), fun j hj => (m1 _ (by omega)).trans (r8 j hj), fun j hj => (m1 _ (by omega)).trans (r9 j hj), fun j hj => (m1 _ (by omega)).trans (r10 j hj)⟩, fun j h1 h2 => ?_, fun d h1 h2 => ?_⟩
  · rw [e1]; exact v4
  · rw [e1, m1 _ (by omega)]; exact z1 j h1 h2
  · rw [e1, m1 _ (by omega)]; exact z2 d h1 h2
theorem VB.ag {t1 t1' : tS} (h : VB w nh nd st V t t') (a1 : t1.1 w 11 = t.1 w 11) (a2 : t1.1 w 12 = t.1 w 12) (a3 : t1.1 w 13 = t.1 w 13) (e1 : ∀ b i, w + 2 ≤ b → b ≤ w + 10 → t1.2.1 b i = t.2.1 b i) (m1 : ∀ i, i ≠ 53 → t1'.2.1 224 i = t'.2.1 224 i) : VB w nh nd st V t1 t1' := by
  obtain ⟨k1, ⟨v1, v2, v3, v4, v5, v6, v7, v8, v9, v10, v11⟩, ⟨r1, r2, r3, r4, r5, r6, r7, r8, r9, r10⟩, z1, z2⟩ := h
  refine ⟨k1, ⟨a1.trans v1, a2.trans v2, a3.trans v3, fun j hj => (e1 _ _ (by omega) (by omega)).trans (v4 j hj), fun j hj => (e1 _ _ (by omega) (by omega)).trans (v5 j hj), fun j hj => (e1 _ _ (by omega) (by omega)).trans (v6 j hj), fun j hj => (e1 _ _ (by omega) (by omega)).trans (v7 j hj), fun j hj => (e1 _ _ (by omega) (by omega)).trans (v8 j hj), fun j hj => (e1 _ _ (by omega) (by omega)).trans (v9 j hj), fun j hj => (e1 _ _ (by omega) (by omega)).trans (v10 j hj), fun j hj => (e1 _ _ (by omega) (by omega)).trans (v11 j hj)⟩, ⟨(m1 _ (by omega)).trans r1, (m1 _ (by omega)).trans r2, (m1 _ (by omega)).trans r3, fun j hj => (m1 _ (by omega)).trans (r4 j hj), fun j hj => (m1 _ (by omega)).trans (r5 j hj), fun j hj => (m1 _ (by omega)).trans (r6 j hj), fun j hj => (m1 _ (by omega)).trans (r7 j hj), fun j hj => (m1 _ (by omega)).trans (r8 j hj), fun j hj => (m1 _ (by omega)).trans (r9 j hj), fun j hj => (m1 _ (by omega)).trans (r10 j hj)⟩, fun j h1 h2 => ?_, fun d h1 h2 => ?_⟩
  · rw [e1 _ _ (by omega) (by omega), m1 _ (by omega)]; exact z1 j h1 h2
  · rw [e1 _ _ (by omega) (by omega), m1 _ (by omega)]; exact z2 d h1 h2
theorem vstays (hT : TK c L M so pl bh) (hw : w = 182 ∨ w = 196) (h : VST c L M so pl bh w k t t') (hi : isw c so pl bh k 8 = true) : VOUT c L M so pl bh w k (tX4_readStays w t) ((tX10_readOnce t').bind fun tt => tX10_takeSign 59 tt) t t' := by
  have hM := hT.2.2.1
  have hL := hT.1
  obtain ⟨hp, nh, nd, st, V, sb, fb, hb, ⟨ns, kd, hn⟩, hl⟩ := h
  have hkM := isw_m hT hp.1 hi
  have o01 : ¬ (1 : Int32) = 0 := by decide
  have y1 : tX10_wordHere 8 2 t' = some (nI 0) := by
    obtain ⟨y, y1, y2⟩ := hp.wh hT (f := 8) (m := 2) (by decide)
    have y1' : tX10_wordHere 8 2 t' = some y := y1
    rcases y2 with ⟨_, y2⟩ | ⟨j, j1, rfl, j3⟩
    · have := y2 0 (by omega)
      rw [hi] at this
      cases this
    · have := isw_un (by omega) (by omega) hi j3
      rw [y1', show j = 0 by omega]
  have m8 := hp.2.2.2.2.2
  obtain ⟨l1, l2, l3, l4, l5⟩ := hl
  have fb1 : fb < 2 := by rcases l5 with ⟨g, _⟩ | ⟨g, _⟩ <;> omega
  have ob := (once_b sb (by omega) fb fb1).1
  have z00 : (0 : Int32) ≤ nI 0 := by decide
  unfold tX4_readStays tX10_readOnce
  rw [y1, l1]
  simp only [ob_s]
  rw [l3, if_pos z00]
  by_cases hs : sb = 1
  · obtain ⟨F, f1, f1', g1, g2, g3⟩ := hp.no hT (kd := 3) (by omega) (by omega)
    have g1' : tX7_refuse 3 t = some (0, f1) := g1
    have g2' : tX10_wrong 3 t' = some f1' := g2
    have nl := g3.ft.nl
    rw [if_neg (by rw [hs]; decide), if_neg (not_not_intro (ob.2 hs)), g1', g2']
    simp only [ob_s, ob_2, z01_0, nl, if_false]
    exact g3.vo VC.rf VM.rf
  · obtain rfl : sb = 0 := by omega
    have oc := (once_s fb fb1).1
    rw [if_pos (show nI 0 = (0 : Int32) from rfl), if_pos (fun z => hs (ob.1 z))]
    have pc1 : PC c L M so pl bh k (uI t w 14 1) (uI t' 218 20 (nI (1 + 2 * fb))) := hp.ag (fun j _ => uI_o (by omega)) (fun _ => rfl) rfl (uI_o (by omega)) (uI_o (by omega)) (fun _ => rfl) (fun _ => rfl) (fun _ => rfl) (fun _ => rfl)
    obtain ⟨T, e1, e2, e3⟩ := pc1.step hT hkM
    have z8 : t'.1 218 8 ≤ 0 := by rw [m8]; decide
    have x7 : (uI t' 218 20 (nI (1 + 2 * fb))).1 218 7 + 1 = nI (k + 1) := pc1.at1
    simp only [ob_s, z8, if_true]
    rw [l3, oc, x7, e1]
    simp only [ob_s, not_true_eq_false, if_false, show (nI 0 : Int32) = 0 from rfl]
    rcases e2.pNum hT (lo := 1) (hi := 4) (by decide) (by decide) with ⟨n, t1, t1', a0, a1, a2, a3, a4, a5, a6, a7⟩ | ⟨F, t1, t1', a1, a2, a3⟩
    · have a2' : tX7_passNumber 1 4 T = some (1, t1) := a2
      have a4' : tX10_takeNumber 1 4 (uI (uI t' 218 20 (nI (1 + 2 * fb))) 218 7 (nI (k + 1))) = some (nI n, t1') := a4
      have cc : CO1 (uI t w 14 1) t1 := e3.co.tr a6
      have rr : RO1 (uI t' 218 20 (nI (1 + 2 * fb))) t1' := (RO1.wI (.inl rfl)).tr a7
      have c11 := cc.2.1
      have r11 := rr.2
      rw [a2', a4']
      simp only [ob_s, ob_2, o01, not_false_eq_true, if_true]
      rw [a3, show (52 : Int32) = nI 52 from rfl, tW0_e (by omega) (by omega)]
      simp only [ob_s]
      have pc : PC c L M so pl bh (k + 1 + 1) (uI t1 w 13 (nI n)) (uA t1' 224 52 (nI n)) := a5.ag (fun j _ => uI_o (by omega)) (fun _ => rfl) rfl rfl rfl (fun _ => uA_o (by omega)) (fun _ => uA_o (by omega)) (fun _ => rfl) (fun _ => rfl)
      have hV : VB w nh nd n V (uI t1 w 13 (nI n)) (uA t1' 224 52 (nI n)) := by
        refine hb.stay a0 a1 ?_ ?_ uI_s ?_ (fun i hi => ?_) uA_s
        · rw [uI_o (by omega), cc.1 _ _ (by omega), uI_o (by omega)]
        · rw [uI_o (by omega), cc.1 _ _ (by omega), uI_o (by omega)]
        · show t1.2.1 = _
          rw [c11]; rfl
        · rw [uA_o (by omega), r11]; rfl
      have hN : NM w nh nd 228 230 19 ns kd (uI t1 w 13 (nI n)) (uA t1' 224 52 (nI n)) := by
        refine hn.ag (fun i => ?_) (fun i => ?_) ?_ (fun i => ?_) (fun i => ?_)
        · show t1.2.2.1 _ _ = _
          rw [cc.2.2.1]; rfl
        · show t1.2.2.1 _ _ = _
          rw [cc.2.2.1]; rfl
        · show t1'.1 218 19 = _
          rw [rr.1 _ _ (by omega), uI_o (by omega)]
        · show t1'.2.2.1 228 i = _
          rw [r11]; rfl
        · rw [uA_o (by omega), r11]; rfl
      have hl1 : VL w (k + 1 + 1) 1 fb (uI t1 w 13 (nI n)) (uA t1' 224 52 (nI n)) := by
        refine ⟨?_, ?_, ?_, by omega, ?_⟩
        · rw [uI_o (by omega), cc.1 _ _ (by omega), uI_s]; rfl
        · rw [uI_o (by omega), cc.1 _ _ (by omega), uI_o (by omega)]; exact l2
        · show t1'.1 218 20 = _
          rw [rr.1 _ _ (by omega), uI_s]
        · have x13 : (uA t1' 224 52 (nI n)).1 218 13 = t'.1 218 13 := by
            show t1'.1 218 13 = _
            rw [rr.1 _ _ (by omega), uI_o (by omega)]
          have xA : ∀ b i, ¬ (b = 224 ∧ i = 52) → (uA t1' 224 52 (nI n)).2.1 b i = t'.2.1 b i := fun b i g => by rw [uA_o g, r11]; rfl
          have xC : ∀ b i, (uI t1 w 13 (nI n)).2.1 b i = t.2.1 b i := fun b i => by
            show t1.2.1 b i = _
            rw [c11]; rfl
          have xL : (uI t1 w 13 (nI n)).1 (w + 11) 2 = t.1 (w + 11) 2 := by rw [uI_o (by omega), cc.1 _ _ (by omega), uI_o (by omega)]
          rw [x13, xA _ _ (by omega), xL]
          rcases l5 with g | ⟨g1, g2, len, dp, g3, g4, g5, g6, g7, g8, g9⟩
          · exact .inl g
          · refine .inr ⟨g1, g2, len, dp, by omega, g4, g5, g6, g7, (xA _ _ (by omega)).trans g8, fun i hi => ?_⟩
            rw [xA _ _ (by omega), xA _ _ (by omega), xC]
            exact g9 i hi
      exact vend hT hw pc (by omega) hV hN hl1 ((VC.wI.tr cc.vc).tr VC.wI) (((VM.wI (by omega)).tr rr.vm).tr (VM.wA (.inl ⟨rfl, by omega⟩)))
    · have a1' : tX7_passNumber 1 4 T = some (0, t1) := a1
      have a2' : tX10_takeNumber 1 4 (uI (uI t' 218 20 (nI (1 + 2 * fb))) 218 7 (nI (k + 1))) = some (0, t1') := a2
      rw [a1', a2']
      simp only [ob_s, ob_2, not_true_eq_false, if_false]
      rw [show (52 : Int32) = nI 52 from rfl, tW0_e (by omega) (by omega)]
      simp only [ob_s]
      have ft : FT (uA t1' 224 52 0) := a3.ft.ag rfl
      obtain ⟨g1, g2, g3, g4, g5, g6⟩ := a3
      rw [ft.takeSign]
      exact .inr ⟨F, t1, _, rfl, rfl, g1, g2, g3, g4, (VC.wI.tr e3.co.vc).tr g5.vc, ((VM.wI (by omega)).tr ((RO1.wI (.inl rfl)).tr g6).vm).tr (VM.wA (.inl ⟨rfl, by omega⟩))⟩
theorem vfades (hT : TK c L M so pl bh) (hw : w = 182 ∨ w = 196) (h : VST c L M so pl bh w k t t') (hi : isw c so pl bh k 9 = true) : VOUT c L M so pl bh w k (tX4_readFades w t) ((tX10_readOnce t').bind fun tt => tX10_takeSign 59 tt) t t' := by
  have hM := hT.2.2.1
  have hL := hT.1
  obtain ⟨hp, nh, nd, st, V, sb, fb, hb, ⟨ns, kd, hn⟩, hl⟩ := h
  have hkM := isw_m hT hp.1 hi
  have o01 : ¬ (1 : Int32) = 0 := by decide
  have y1 : tX10_wordHere 8 2 t' = some (nI 1) := by
    obtain ⟨y, y1, y2⟩ := hp.wh hT (f := 8) (m := 2) (by decide)
    have y1' : tX10_wordHere 8 2 t' = some y := y1
    rcases y2 with ⟨_, y2⟩ | ⟨j, j1, rfl, j3⟩
    · have := y2 1 (by omega)
      rw [hi] at this
      cases this
    · have := isw_un (by omega) (by omega) hi j3
      rw [y1', show j = 1 by omega]
  have m8 := hp.2.2.2.2.2
  obtain ⟨l1, l2, l3, l4, l5⟩ := hl
  have fb1 : fb < 2 := by rcases l5 with ⟨g, _⟩ | ⟨g, _⟩ <;> omega
  have ob := (once_b sb (by omega) fb fb1).2
  have z01 : (0 : Int32) ≤ nI 1 := by decide
  unfold tX4_readFades tX10_readOnce
  rw [y1, l2]
  simp only [ob_s]
  rw [l3, if_pos z01]
  by_cases hs : fb = 1
  · obtain ⟨F, f1, f1', g1, g2, g3⟩ := hp.no hT (kd := 3) (by omega) (by omega)
    have g1' : tX7_refuse 3 t = some (0, f1) := g1
    have g2' : tX10_wrong 3 t' = some f1' := g2
    have nl := g3.ft.nl
    rw [if_neg (by rw [hs]; decide), if_neg (not_not_intro (ob.2 hs)), g1', g2']
    simp only [ob_s, ob_2, z01_0, nl, if_false]
    exact g3.vo VC.rf VM.rf
  · obtain rfl : fb = 0 := by omega
    have oc := (once_s sb (by omega)).2
    obtain ⟨c53, c13⟩ : t'.2.1 224 53 = -1 ∧ t'.1 218 13 = nI 0 := by
      rcases l5 with ⟨_, g⟩ | ⟨g, _⟩
      · exact g
      · omega
    rw [if_pos (show nI 0 = (0 : Int32) from rfl), if_pos (fun z => hs (ob.1 z))]
    have pc1 : PC c L M so pl bh k (uI t w 15 1) (uI t' 218 20 (nI (sb + 2 * 1))) := hp.ag (fun j _ => uI_o (by omega)) (fun _ => rfl) rfl (uI_o (by omega)) (uI_o (by omega)) (fun _ => rfl) (fun _ => rfl) (fun _ => rfl) (fun _ => rfl)
    obtain ⟨T, e1, e2, e3⟩ := pc1.step hT hkM
    have z8 : t'.1 218 8 ≤ 0 := by rw [m8]; decide
    have x7 : (uI t' 218 20 (nI (sb + 2 * 1))).1 218 7 + 1 = nI (k + 1) := pc1.at1
    have n10 : ¬ nI 1 = (0 : Int32) := by decide
    have x13 : (uI (uI t' 218 20 (nI (sb + 2 * 1))) 218 7 (nI (k + 1))).1 218 13 = nI 0 := by
      rw [uI_o (by omega), uI_o (by omega)]; exact c13
    simp only [ob_s, z8, if_true]
    rw [l3, oc, x7, e1, if_pos n10, x13, show (53 : Int32) = nI 53 from rfl, tW0_e (by omega) (by omega)]
    simp only [ob_s]
    obtain ⟨A, hA⟩ : ∃ X, X = uI T (w + 11) 2 0 := ⟨_, rfl⟩
    obtain ⟨A', hA'⟩ : ∃ X, X = uA (uI (uI t' 218 20 (nI (sb + 2 * 1))) 218 7 (nI (k + 1))) 224 53 (nI 0) := ⟨_, rfl⟩
    rw [← hA, ← hA']
    have lst : LST c L M so pl bh w (k + 1) 0 0 A A' := by
      refine ⟨e2.ag (fun j _ => by rw [hA, uI_o (by omega)]) (fun _ => by rw [hA]; rfl) (by rw [hA]; rfl) (by rw [hA']; rfl) (by rw [hA']; rfl) (fun _ => by rw [hA', uA_o (by omega)]) (fun _ => by rw [hA', uA_o (by omega)]) (fun _ => by rw [hA']; rfl) (fun _ => by rw [hA']; rfl), by rw [hA, uI_s]; rfl, by rw [hA']; exact x13, by omega, fun _ => 0, rfl, rfl, fun i hi => by omega⟩
    have fc : VC w t A := by
      rw [hA]
      exact (VC.wI.tr e3.co.vc).tr VC.wL
    have fm : VM t' A' := by
      rw [hA']
      exact ((VM.wI (by omega)).tr (VM.wI (by omega))).tr (VM.wA (.inl ⟨rfl, by omega⟩))
    unfold tX1_readLevel tX10_whole
    rcases law_e (n := 60) (n' := 60) hT hw (by omega) (by omega) (k + 1) 0 0 A A' lst (by omega) with ⟨k1, len1, t1, t1', b1, b2, b3, b4, b5, b6, b7⟩ | ⟨F, cd, t1, t1', b1, b2, b3, b4, b5, b6, b7, b8, b9, b10⟩
    · have b1' : gtX1_readLevel 60 0 (w + 11) 0 0 A = some (1, t1) := b1
      have b2' : gtX10_products 60 4 0 A' = some t1' := b2
      obtain ⟨p1, p2, p3, p4, dp, p5, p6, p7⟩ := b3
      have hk1 := p1.1
      rw [b1', b2']
      simp only [ob_s, ob_2, o01, if_false]
      rw [emit_e p3 (by omega)]
      simp only [ob_s]
      obtain ⟨Z', hZ⟩ : ∃ X, X = uI (uA (uA t1' 225 (1100 + len1) 0) 226 (1100 + len1) 0) 218 13 (nI (len1 + 1)) := ⟨_, rfl⟩
      rw [← hZ]
      have pcz : PC c L M so pl bh k1 t1 Z' := by
        refine p1.ag (fun _ _ => rfl) (fun _ => rfl) rfl ?_ ?_ (fun i => ?_) (fun i => ?_) (fun i => ?_) (fun i => ?_)
        all_goals rw [hZ]; simp (disch := omega) only [uA_s, uA_o, uI_s, uI_o, uB_s, uB_o, uI_2, uA_1, uA_3, uB_1, uB_a, uB_3]
      have tc : ∀ b j, b ≠ 1 → ¬ (b = w + 11 ∧ j = 2) → ¬ (b = w ∧ j = 15) → t1.1 b j = t.1 b j := by
        intro b j g1 g2 g3
        rw [b6.1 _ _ g1 g2, hA, uI_o g2, e3.1 _ _ (by omega), uI_o g3]
      have ta : ∀ b i, b ≠ w + 12 → t1.2.1 b i = t.2.1 b i := by
        intro b i g1
        rw [b6.2.1 _ _ g1, hA]
        show T.2.1 b i = _
        rw [e3.2.1]; rfl
      have tb : t1.2.2.1 = t.2.2.1 := by
        rw [b6.2.2.1, hA]
        show T.2.2.1 = _
        rw [e3.2.2.1]; rfl
      have ma : ∀ b i, ¬ ((b = 225 ∨ b = 226) ∧ 1100 ≤ i) → ¬ (b = 224 ∧ i = 53) → Z'.2.1 b i = t'.2.1 b i := by
        intro b i g1 g2
        rw [hZ]
        simp (disch := omega) only [uA_s, uA_o, uI_s, uI_o, uB_s, uB_o, uI_2, uA_1, uA_3, uB_1, uB_a, uB_3]
        rw [b7.2.1 _ _ g1, hA']
        simp (disch := omega) only [uA_s, uA_o, uI_s, uI_o, uB_s, uB_o, uI_2, uA_1, uA_3, uB_1, uB_a, uB_3]
      have mc : ∀ j, j ≠ 7 → j ≠ 8 → j ≠ 13 → j ≠ 20 → Z'.1 218 j = t'.1 218 j := by
        intro j g1 g2 g3 g4
        rw [hZ]
        simp (disch := omega) only [uA_s, uA_o, uI_s, uI_o, uB_s, uB_o, uI_2, uA_1, uA_3, uB_1, uB_a, uB_3]
        rw [b7.1 _ _ (by omega), hA']
        simp (disch := omega) only [uA_s, uA_o, uI_s, uI_o, uB_s, uB_o, uI_2, uA_1, uA_3, uB_1, uB_a, uB_3]
      have mb : ∀ b i, Z'.2.2.1 b i = t'.2.2.1 b i := by
        intro b i
        rw [hZ]
        simp (disch := omega) only [uA_s, uA_o, uI_s, uI_o, uB_s, uB_o, uI_2, uA_1, uA_3, uB_1, uB_a, uB_3]
        rw [b7.2.2, hA']
        simp (disch := omega) only [uA_s, uA_o, uI_s, uI_o, uB_s, uB_o, uI_2, uA_1, uA_3, uB_1, uB_a, uB_3]
      have hV : VB w nh nd st V t1 Z' := hb.ag (tc _ _ (by omega) (by omega) (by omega)) (tc _ _ (by omega) (by omega) (by omega)) (tc _ _ (by omega) (by omega) (by omega)) (fun b i g1 g2 => ta _ _ (by omega)) (fun i g => ma _ _ (by omega) (by omega))
      have hN : NM w nh nd 228 230 19 ns kd t1 Z' := hn.ag (fun i => by rw [tb]) (fun i => by rw [tb]) (mc _ (by omega) (by omega) (by omega) (by omega)) (fun i => mb _ _) (fun i => ma _ _ (by omega) (by omega))
      have hl1 : VL w k1 sb 1 t1 Z' := by
        refine ⟨(tc _ _ (by omega) (by omega) (by omega)).trans l1, ?_, ?_, l4, .inr ⟨rfl, ?_, len1, dp, by omega, p2, ?_, p5, p6, ?_, fun i hi => ?_⟩⟩
        · rw [b6.1 _ _ (by omega) (by omega), hA, uI_o (by omega), e3.1 _ _ (by omega), uI_s]; rfl
        · rw [hZ]
          simp (disch := omega) only [uA_s, uA_o, uI_s, uI_o, uB_s, uB_o, uI_2, uA_1, uA_3, uB_1, uB_a, uB_3]
          rw [b7.1 _ _ (by omega), hA']
          simp (disch := omega) only [uA_s, uA_o, uI_s, uI_o, uB_s, uB_o, uI_2, uA_1, uA_3, uB_1, uB_a, uB_3]
        · rw [hZ]
          simp (disch := omega) only [uA_s, uA_o, uI_s, uI_o, uB_s, uB_o, uI_2, uA_1, uA_3, uB_1, uB_a, uB_3]
          rw [b7.2.1 _ _ (by omega), hA']
          simp (disch := omega) only [uA_s, uA_o, uI_s, uI_o, uB_s, uB_o, uI_2, uA_1, uA_3, uB_1, uB_a, uB_3]
        · rw [hZ]
          simp (disch := omega) only [uA_s, uA_o, uI_s, uI_o, uB_s, uB_o, uI_2, uA_1, uA_3, uB_1, uB_a, uB_3]
        · rw [hZ]
          simp (disch := omega) only [uA_s, uA_o, uI_s, uI_o, uB_s, uB_o, uI_2, uA_1, uA_3, uB_1, uB_a, uB_3]
        · have := p7 i hi
          rw [hZ]
          simp (disch := omega) only [uA_s, uA_o, uI_s, uI_o, uB_s, uB_o, uI_2, uA_1, uA_3, uB_1, uB_a, uB_3]
          exact this
      have hm2 : VM t' Z' := by
        rw [hZ]
        exact (fm.tr b7.vm).tr LM.em.vm
      rcases vend (k := k) hT hw pcz (by omega) hV hN hl1 (fc.tr b6.vc) hm2 with ⟨k2, t2, t2', d0, d1, d2, d3⟩ | ⟨F, t2, t2', d1, d2, d3⟩
      · refine .inl ⟨k2, t2, t2', d0, ?_, d2, d3⟩
        rcases pcz.pSign hT (x := 59) (by omega) with ⟨t3, t3', q1, q2, q3⟩ | ⟨F, t3, t3', q1, q2, q3⟩
        · have q1' : tX7_passSign 59 t1 = some (1, t3) := q1
          rw [q1'] at d1 ⊢
          exact d1
        · have q1' : tX7_passSign 59 t1 = some (0, t3) := q1
          rw [q1'] at d1 ⊢
          exact d1
      · refine .inr ⟨F, t2, t2', ?_, d2, d3⟩
        rcases pcz.pSign hT (x := 59) (by omega) with ⟨t3, t3', q1, q2, q3⟩ | ⟨F, t3, t3', q1, q2, q3⟩
        · have q1' : tX7_passSign 59 t1 = some (1, t3) := q1
          rw [q1'] at d1 ⊢
          exact d1
        · have q1' : tX7_passSign 59 t1 = some (0, t3) := q1
          rw [q1'] at d1 ⊢
          exact d1
    · have b1' : gtX1_readLevel 60 0 (w + 11) 0 0 A = some (0, t1) := b1
      have b2' : gtX10_products 60 4 0 A' = some t1' := b2
      rw [b1', b2']
      simp only [ob_s, ob_2, if_true, z01_0]
      rw [emit_e b7 (by omega)]
      simp only [ob_s]
      have ft : FT (uI (uA (uA t1' 225 (1100 + cd) 0) 226 (1100 + cd) 0) 218 13 (nI (cd + 1))) := ⟨F, b3, b4, by rw [uI_o (by omega)]; exact b6⟩
      rw [ft.takeSign]
      exact .inr ⟨F, t1, _, rfl, rfl, b3, b4, b5, by rw [uI_o (by omega)]; exact b6, fc.tr b9.vc, (fm.tr b10.vm).tr LM.em.vm⟩
end
