/-! ===== PURE: the law of fading is read: parts and levels ===== -/
section
variable {v nh nd st a b n m : Nat} {V : Nat → Nat → Nat} {S : Nat → Nat → Int32} {t0 t0' t t' : tS}
variable {c so pl bh : Nat → Nat} {L M k w : Nat}
theorem OUT.co {len p B F : Nat} {t1 t1' t2 t2' : tS} {oc : Option (Int32 × tS)} {om : Option tS} {k1 len1 : Nat} (h : OUT c L M so pl bh w k1 len1 p B oc om t1 t1') (hc : LC w t t1) (hm : LM t' t1') (hk : k ≤ k1) (hl : len1 + k ≤ len + k1) {B1 : Nat} (hB : B ≤ B1) : OUT c L M so pl bh w k len p B1 oc om t t' := by
  rcases h with ⟨k2, len2, t3, t3', g1, g2, g3, g4, g5, g6, g7⟩ | ⟨F, cd, t3, t3', g1, g2, g3, g4, g5, g6, g7, g8, g9, g10⟩
  · exact .inl ⟨k2, len2, t3, t3', g1, g2, g3, by omega, by omega, hc.tr g6, hm.tr g7⟩
  · exact .inr ⟨F, cd, t3, t3', g1, g2, g3, g4, g5, g6, g7, by omega, hc.tr g9, hm.tr g10⟩
theorem lvN {lv de P B n : Nat} {op : Nat → Option (Int32 × Int32)} {G : tS → Option tS} {R : Nat → tS → Option tS} (hT : TK c L M so pl bh) (hw : w = 182 ∨ w = 196) (hlv : lv < 4) (h1 : lv ≠ 1) (hB : B ≤ 50) (hR : LOOPS c L M so pl bh lv op G R) (hN : NXT c L M so pl bh w (P + 1) B (fun t => gtX1_readLevel n 0 (w + 11) (nI (lv + 1)) (nI de) t) G) : NXT c L M so pl bh w P (B + 1) (fun t => gtX1_readLevel (n + 1) 0 (w + 11) (nI lv) (nI de) t) (fun t' => (G t').bind fun t3 => (R 4000 t3).bind fun t4 => some t4) := by
  have hM := hT.2.2.1
  have hL := hT.1
  intro k len p t t' h hp
  have hk := h.1.1
  have hl := h.2.2.2.1
  show OUT c L M so pl bh w k len (p + 1) (B + 1) (gtX1_readLevel (n + 1) 0 (w + 11) (nI lv) (nI de) t) ((G t').bind fun t3 => (R 4000 t3).bind fun t4 => some t4) t t'
  rw [gtX1_readLevel, if_pos rfl, if_pos (by rw [nN_lel (by omega) (by decide)]; omega), nN_al]
  rcases hN k len p t t' h (by omega) with ⟨k1, len1, t1, t1', b1, b2, b3, b4, b5, b6, b7⟩ | ⟨F, cd, t1, t1', b1, b2, b3, b4, b5, b6, b7, b8, b9, b10⟩
  · have b1' : gtX1_readLevel n 0 (w + 11) (nI (lv + 1)) (nI de) t = some (1, t1) := b1
    obtain ⟨o, om, f1, f2, f3⟩ := lvL hT hw hlv h1 hB hR hN M k1 len1 p 0 4000 4000 t1 t1' b3 (by omega) (by omega) hp (by omega) (by omega)
    have f1' : tX1_readLevel_L29 (gtX1_readLevel n) 4000 (w + 11) (nI lv) (nI de) 0 t1 = some (.inr o) := f1
    rw [b1', b2, ob_2, if_pos (by decide), f1', ob_s, ob_s, f2, ob_s]
    exact f3.co (F := 0) (t2 := t) (t2' := t) b6 b7 b5 b4 (Nat.le_refl _)
  · have b1' : gtX1_readLevel n 0 (w + 11) (nI (lv + 1)) (nI de) t = some (0, t1) := b1
    rw [b1', b2, ob_2, if_neg (by decide), ob_s, hR.2.2 t1' ⟨F, b3, b4, b6⟩ 3999, ob_s]
    exact .inr ⟨F, cd, t1, t1', rfl, rfl, b3, b4, b5, b6, b7, by omega, b9, b10⟩
theorem eI_0 : ∀ k : Nat, ((nI 0).toInt < 0 ∨ 2 < (nI 0).toInt) = False ∧ ((nI 0).toInt - 0).toNat = 0 ∧ ((nI 1).toInt < 0 ∨ 2 < (nI 1).toInt) = False ∧ ((nI 1).toInt - 0).toNat = 1 ∧ ((nI 2).toInt < 0 ∨ 2 < (nI 2).toInt) = False ∧ ((nI 2).toInt - 0).toNat = 2 ∧ ((nI 3).toInt < 0 ∨ 2 < (nI 3).toInt) = True := by
  intro _
  refine ⟨?_, ?_, ?_, ?_, ?_, ?_, ?_⟩ <;> first | decide | (apply propext; decide)
def op0 (c so pl bh : Nat → Nat) (k : Nat) : Option (Int32 × Int32) := if isw c so pl bh k 19 = true then some (-6, 9) else if isw c so pl bh k 20 = true then some (-7, 10) else none
def op1 (c so pl : Nat → Nat) (k : Nat) : Option (Int32 × Int32) := if iss c so pl k 60 = true then some (-8, 7) else if iss c so pl k 61 = true then some (-9, 8) else none
def op2 (c so pl : Nat → Nat) (k : Nat) : Option (Int32 × Int32) := if iss c so pl k 43 = true then some (-10, 4) else if iss c so pl k 45 = true then some (-11, 5) else none
def op3 (c so pl : Nat → Nat) (k : Nat) : Option (Int32 × Int32) := if iss c so pl k 42 = true then some (-12, 6) else none
theorem opC0 (h : PC c L M so pl bh k t t') (hT : TK c L M so pl bh) : tX1_operatorOf (nI 0) t = some (if isw c so pl bh k 19 = true then -6 else if isw c so pl bh k 20 = true then -7 else 0) := by
  have w1 : tX7_isWord 1000019 t = some (bI (isw c so pl bh k 19)) := h.cw hT (i := 19) (by decide)
  have w2 : tX7_isWord 1000020 t = some (bI (isw c so pl bh k 20)) := h.cw hT (i := 20) (by decide)
  obtain ⟨e1, e2, _⟩ := eI_0 0
  unfold tX1_operatorOf
  simp only [e1, e2, if_false, ob_s, if_true, w1, w2, bI_0]
  cases isw c so pl bh k 19 <;> cases isw c so pl bh k 20 <;> rfl
theorem opC1 (h : PC c L M so pl bh k t t') (hT : TK c L M so pl bh) : tX1_operatorOf (nI 1) t = some (if iss c so pl k 60 = true then -8 else if iss c so pl k 61 = true then -9 else 0) := by
  have w1 : tX7_isSignOf 60 t = some (bI (iss c so pl k 60)) := h.cs hT (x := 60) (by decide)
  have w2 : tX7_isSignOf 61 t = some (bI (iss c so pl k 61)) := h.cs hT (x := 61) (by decide)
  obtain ⟨_, _, e1, e2, _⟩ := eI_0 0
  have z : ¬ (1 : Nat) = 0 := by decide
  unfold tX1_operatorOf
  simp only [e1, e2, if_false, ob_s, if_true, w1, w2, bI_0, z]
  cases iss c so pl k 60 <;> cases iss c so pl k 61 <;> rfl
theorem opC2 (h : PC c L M so pl bh k t t') (hT : TK c L M so pl bh) : tX1_operatorOf (nI 2) t = some (if iss c so pl k 43 = true then -10 else if iss c so pl k 45 = true then -11 else 0) := by
  have w1 : tX7_isSignOf 43 t = some (bI (iss c so pl k 43)) := h.cs hT (x := 43) (by decide)
  have w2 : tX7_isSignOf 45 t = some (bI (iss c so pl k 45)) := h.cs hT (x := 45) (by decide)
  obtain ⟨_, _, _, _, e1, e2, _⟩ := eI_0 0
  have z : ¬ (2 : Nat) = 0 := by decide
  have z1 : ¬ (2 : Nat) = 1 := by decide
  unfold tX1_operatorOf
  simp only [e1, e2, if_false, ob_s, if_true, w1, w2, bI_0, z, z1]
  cases iss c so pl k 43 <;> cases iss c so pl k 45 <;> rfl
theorem opC3 (h : PC c L M so pl bh k t t') (hT : TK c L M so pl bh) : tX1_operatorOf (nI 3) t = some (if iss c so pl k 42 = true then -12 else 0) := by
  have w1 : tX7_isSignOf 42 t = some (bI (iss c so pl k 42)) := h.cs hT (x := 42) (by decide)
  obtain ⟨_, _, _, _, _, _, e1⟩ := eI_0 0
  unfold tX1_operatorOf
  simp only [e1, if_true, ob_s, w1, bI_0]
  cases iss c so pl k 42 <;> rfl
theorem loop0 {n : Nat} {de : Int32} (hT : TK c L M so pl bh) : LOOPS c L M so pl bh 0 (op0 c so pl bh) (fun t => gtX10_products n 3 de t) (fun f t => tX10_whole_L5 (gtX10_products n) f de t) := by
  have z9 : ¬ (10 : Int32) = 0 := by decide
  refine ⟨fun k t t' h e => ?_, fun k t t' x m h e => ?_, fun t' h f => ?_⟩
  · have m1 : tX10_isWord 19 t' = some (bI (isw c so pl bh k 19)) := h.mw hT (i := 19) (by decide)
    have m2 : tX10_isWord 20 t' = some (bI (isw c so pl bh k 20)) := h.mw hT (i := 20) (by decide)
    unfold op0 at e
    cases h1 : isw c so pl bh k 19
    · cases h2 : isw c so pl bh k 20
      · refine ⟨by rw [opC0 h hT, h1, h2]; rfl, fun f => ?_⟩
        show tX10_whole_L5 (gtX10_products n) (f + 1) de t' = some t'
        rw [tX10_whole_L5, m1, ob_s, h1, if_neg (show ¬ ¬ bI false = 0 by decide), m2, ob_s, h2, if_pos (show bI false = 0 by decide)]
      · rw [h1, h2] at e; cases e
    · rw [h1] at e; cases e
  · have m1 : tX10_isWord 19 t' = some (bI (isw c so pl bh k 19)) := h.mw hT (i := 19) (by decide)
    have m2 : tX10_isWord 20 t' = some (bI (isw c so pl bh k 20)) := h.mw hT (i := 20) (by decide)
    unfold op0 at e
    cases h1 : isw c so pl bh k 19
    · cases h2 : isw c so pl bh k 20
      · rw [h1, h2] at e; cases e
      · rw [h1, h2] at e
        obtain ⟨rfl, rfl⟩ := am_inj2 e
        refine ⟨isw_m hT h.1 h2, .inr (.inl ⟨rfl, rfl⟩), by rw [opC0 h hT, h1, h2]; rfl, fun f => ?_⟩
        show tX10_whole_L5 (gtX10_products n) (f + 1) de t' = _
        rw [tX10_whole_L5, m1, ob_s, h1, if_neg (show ¬ ¬ bI false = 0 by decide), m2, ob_s, h2, if_neg (show ¬ bI true = 0 by decide), ob_s, h.at1, ob_s, if_pos (show bI false = 0 by decide)]
        rfl
    · rw [h1] at e
      obtain ⟨rfl, rfl⟩ := am_inj2 e
      refine ⟨isw_m hT h.1 h1, .inl ⟨rfl, rfl⟩, by rw [opC0 h hT, h1]; rfl, fun f => ?_⟩
      show tX10_whole_L5 (gtX10_products n) (f + 1) de t' = _
      rw [tX10_whole_L5, m1, ob_s, h1, if_pos (show ¬ bI true = 0 by decide), ob_s, h.at1, ob_s, if_neg (show ¬ bI true = 0 by decide)]
      rfl
  · show tX10_whole_L5 (gtX10_products n) (f + 1) de t' = some t'
    rw [tX10_whole_L5, h.isWord, ob_s, if_neg (by decide), h.isWord, ob_s, if_pos rfl]
theorem loop2 {n : Nat} {de : Int32} (hT : TK c L M so pl bh) : LOOPS c L M so pl bh 2 (op2 c so pl) (fun t => gtX10_products n 0 de t) (fun f t => tX10_sums_L5 (gtX10_products n) f de t) := by
  refine ⟨fun k t t' h e => ?_, fun k t t' x m h e => ?_, fun t' h f => ?_⟩
  · have m1 : tX10_isSign 43 t' = some (bI (iss c so pl k 43)) := h.ms hT (x := 43) (by decide)
    have m2 : tX10_isSign 45 t' = some (bI (iss c so pl k 45)) := h.ms hT (x := 45) (by decide)
    unfold op2 at e
    cases h1 : iss c so pl k 43
    · cases h2 : iss c so pl k 45
      · refine ⟨by rw [opC2 h hT, h1, h2]; rfl, fun f => ?_⟩
        show tX10_sums_L5 (gtX10_products n) (f + 1) de t' = some t'
        rw [tX10_sums_L5, m1, ob_s, h1, if_neg (show ¬ ¬ bI false = 0 by decide), m2, ob_s, h2, if_pos (show bI false = 0 by decide)]
      · rw [h1, h2] at e; cases e
    · rw [h1] at e; cases e
  · have m1 : tX10_isSign 43 t' = some (bI (iss c so pl k 43)) := h.ms hT (x := 43) (by decide)
    have m2 : tX10_isSign 45 t' = some (bI (iss c so pl k 45)) := h.ms hT (x := 45) (by decide)
    unfold op2 at e
    cases h1 : iss c so pl k 43
    · cases h2 : iss c so pl k 45
      · rw [h1, h2] at e; cases e
      · rw [h1, h2] at e
        obtain ⟨rfl, rfl⟩ := am_inj2 e
        refine ⟨iss_m hT h.1 h2, .inr (.inr (.inr (.inr (.inr (.inl ⟨rfl, rfl⟩))))), by rw [opC2 h hT, h1, h2]; rfl, fun f => ?_⟩
        show tX10_sums_L5 (gtX10_products n) (f + 1) de t' = _
        rw [tX10_sums_L5, m1, ob_s, h1, if_neg (show ¬ ¬ bI false = 0 by decide), m2, ob_s, h2, if_neg (show ¬ bI true = 0 by decide), ob_s, h.at1, ob_s, if_pos (show bI false = 0 by decide)]
        rfl
    · rw [h1] at e
      obtain ⟨rfl, rfl⟩ := am_inj2 e
      refine ⟨iss_m hT h.1 h1, .inr (.inr (.inr (.inr (.inl ⟨rfl, rfl⟩)))), by rw [opC2 h hT, h1]; rfl, fun f => ?_⟩
      show tX10_sums_L5 (gtX10_products n) (f + 1) de t' = _
      rw [tX10_sums_L5, m1, ob_s, h1, if_pos (show ¬ bI true = 0 by decide), ob_s, h.at1, ob_s, if_neg (show ¬ bI true = 0 by decide)]
      rfl
  · show tX10_sums_L5 (gtX10_products n) (f + 1) de t' = some t'
    rw [tX10_sums_L5, h.isSign, ob_s, if_neg (by decide), h.isSign, ob_s, if_pos rfl]
theorem loop3 {n : Nat} {de : Int32} (hT : TK c L M so pl bh) : LOOPS c L M so pl bh 3 (op3 c so pl) (fun t => gtX10_products n 2 de t) (fun f t => tX10_products_L5 (gtX10_products n) f de t) := by
  refine ⟨fun k t t' h e => ?_, fun k t t' x m h e => ?_, fun t' h f => ?_⟩
  · have m1 : tX10_hasSign 42 t' = some (bI (iss c so pl k 42), uI t' 218 7 (nI (if iss c so pl k 42 = true then k + 1 else k))) := h.hasS hT (x := 42) (by decide)
    unfold op3 at e
    cases h1 : iss c so pl k 42
    · refine ⟨by rw [opC3 h hT, h1]; rfl, fun f => ?_⟩
      show tX10_products_L5 (gtX10_products n) (f + 1) de t' = some t'
      rw [tX10_products_L5, m1, ob_2, h1, if_pos (show bI false = 0 by decide), if_neg (by decide), h.id7]
    · rw [h1] at e; cases e
  · have m1 : tX10_hasSign 42 t' = some (bI (iss c so pl k 42), uI t' 218 7 (nI (if iss c so pl k 42 = true then k + 1 else k))) := h.hasS hT (x := 42) (by decide)
    unfold op3 at e
    cases h1 : iss c so pl k 42
    · rw [h1] at e; cases e
    · rw [h1] at e
      obtain ⟨rfl, rfl⟩ := am_inj2 e
      refine ⟨iss_m hT h.1 h1, .inr (.inr (.inr (.inr (.inr (.inr ⟨rfl, rfl⟩))))), by rw [opC3 h hT, h1]; rfl, fun f => ?_⟩
      show tX10_products_L5 (gtX10_products n) (f + 1) de t' = _
      rw [tX10_products_L5, m1, ob_2, h1, if_neg (show ¬ bI true = 0 by decide), if_pos rfl]
  · show tX10_products_L5 (gtX10_products n) (f + 1) de t' = some t'
    rw [tX10_products_L5, h.hasSign, ob_2, if_pos rfl]
/-- the two sides of a test -/
theorem lv1 {de P B n n' : Nat} (hT : TK c L M so pl bh) (hw : w = 182 ∨ w = 196) (hB : B ≤ 50) (hN : NXT c L M so pl bh w (P + 1) B (fun t => gtX1_readLevel n 0 (w + 11) (nI (1 + 1)) (nI de) t) (fun t => gtX10_products n' 1 (nI de) t)) : NXT c L M so pl bh w P (B + 1) (fun t => gtX1_readLevel (n + 1) 0 (w + 11) (nI 1) (nI de) t) (fun t => gtX10_products (n' + 1) 3 (nI de) t) := by
  have hM := hT.2.2.1
  have hL := hT.1
  intro k len p t t' h hp
  show OUT c L M so pl bh w k len (p + 1) (B + 1) (gtX1_readLevel (n + 1) 0 (w + 11) (nI 1) (nI de) t) (gtX10_products (n' + 1) 3 (nI de) t') t t'
  rw [gtX1_readLevel, if_pos rfl, if_pos (by decide), nN_al, gtX10_products, if_neg (by decide), if_neg (by decide), if_neg (by decide), if_pos rfl]
  rcases hN k len p t t' h (by omega) with ⟨k1, len1, t1, t1', b1, b2, b3, b4, b5, b6, b7⟩ | ⟨F, cd, t1, t1', b1, b2, b3, b4, b5, b6, b7, b8, b9, b10⟩
  · have b1' : gtX1_readLevel n 0 (w + 11) (nI (1 + 1)) (nI de) t = some (1, t1) := b1
    have b2' : gtX10_products n' 1 (nI de) t' = some t1' := b2
    have m1 : tX10_isSign 60 t1' = some (bI (iss c so pl k1 60)) := b3.1.ms hT (x := 60) (by decide)
    have m2 : tX10_hasSign 60 t1' = some (bI (iss c so pl k1 60), uI t1' 218 7 (nI (if iss c so pl k1 60 = true then k1 + 1 else k1))) := b3.1.hasS hT (x := 60) (by decide)
    have m3 : tX10_hasSign 61 t1' = some (bI (iss c so pl k1 61), uI t1' 218 7 (nI (if iss c so pl k1 61 = true then k1 + 1 else k1))) := b3.1.hasS hT (x := 61) (by decide)
    rw [b1', b2', ob_2, if_pos (by decide), ob_s, m1, ob_s, m2, ob_2]
    -- the second side
    have side : ∀ (x m : Int32), OPS x m → k1 < M → tX1_operatorOf (nI 1) t1 = some x → OUT c L M so pl bh w k len (p + 1) (B + 1) ((tX1_readLevel_L29 (gtX1_readLevel n) 4000 (w + 11) (nI 1) (nI de) 0 t1).bind fun o29 => match o29 with | .inl tt27 => some ((1 : Int32), tt27) | .inr y30 => some y30) ((gtX10_products n' 1 (nI de) (uI t1' 218 7 (nI (k1 + 1)))).bind fun tt17 => tX10_emit m 0 tt17) t t' := by
      intro x m hx hk1 hop
      obtain ⟨T, e1, e2, e3⟩ := b3.1.step hT hk1
      have h2 := b3.go hw e2 (by omega) e3.co (RO1.wI (.inl rfl))
      have hk := b3.1.1
      rw [show 4000 = 3999 + 1 from rfl, tX1_readLevel_L29, if_neg (by decide), hop, ob_s, if_pos hx.n0, e1, ob_s, nN_al]
      rcases hN (k1 + 1) len1 (p + 1) T _ h2 (by omega) with ⟨k2, len2, t2, t2', d1, d2, d3, d4, d5, d6, d7⟩ | ⟨F, cd, t2, t2', d1, d2, d3, d4, d5, d6, d7, d8, d9, d10⟩
      · have d1' : gtX1_readLevel n 0 (w + 11) (nI (1 + 1)) (nI de) T = some (1, t2) := d1
        have d2' : gtX10_products n' 1 (nI de) (uI t1' 218 7 (nI (k1 + 1))) = some t2' := d2
        obtain ⟨t3, t3', f1, f2, f3, f4, f5⟩ := d3.add hT hw (x := x) (o := m) (g := 0) (q := p + 1) (by have := d3.2.2.2.1; have := b3.2.2.2.1; omega) (.inr (.inr (.inr ⟨hx, by omega, rfl⟩)))
        rw [d1', d2', ob_2, if_pos (by decide), f1, ob_s, ob_s, if_neg (show ¬ ¬ nI 1 = (1 : Int32) by decide), f2, ob_s]
        exact .inl ⟨k2, len2 + 1, t3, t3', rfl, rfl, f3, by omega, by omega, ((b6.tr e3.co.lc).tr d6).tr f4, ((b7.tr (RO1.wI (.inl rfl)).lm).tr d7).tr f5⟩
      · have d1' : gtX1_readLevel n 0 (w + 11) (nI (1 + 1)) (nI de) T = some (0, t2) := d1
        have d2' : gtX10_products n' 1 (nI de) (uI t1' 218 7 (nI (k1 + 1))) = some t2' := d2
        rw [d1', d2', ob_2, if_neg (by decide), ob_s, ob_s, emit_e d7 (by omega)]
        exact .inr ⟨F, cd + 1, t2, _, rfl, rfl, d3, d4, d5, by rw [uI_o (by omega)]; exact d6, uI_s, by omega, (b6.tr e3.co.lc).tr d9, ((b7.tr (RO1.wI (.inl rfl)).lm).tr d10).tr LM.em⟩
    have sm : ∀ {m : Int32} {X : Option tS}, ((X.bind fun tt17 => tX10_emit m 0 tt17) : Option tS) = (X.bind fun tt17 => (tX10_emit m 0 tt17).bind fun tt22 => some tt22).bind fun tt13 => some tt13 := by
      intro m X
      cases X with
      | none => rfl
      | some x =>
        simp only [ob_s]
        cases tX10_emit m 0 x <;> rfl
    cases h1 : iss c so pl k1 60
    · rw [if_neg (show ¬ ¬ bI false = 0 by decide), if_neg (by decide), b3.1.id7, m3, ob_2]
      cases h2 : iss c so pl k1 61
      · rw [if_pos (show bI false = 0 by decide), if_neg (by decide), b3.1.id7, ob_s, show 4000 = 3999 + 1 from rfl, tX1_readLevel_L29, if_neg (by decide), opC1 b3.1 hT, h1, h2, ob_s, if_neg (by decide)]
        exact .inl ⟨k1, len1, t1, t1', rfl, rfl, b3, b4, b5, b6, b7⟩
      · rw [if_neg (show ¬ bI true = 0 by decide), if_pos rfl, if_pos (show bI false = 0 by decide)]
        have S1 := side (-9) 8 (.inr (.inr (.inr (.inl ⟨rfl, rfl⟩)))) (iss_m hT b3.1.1 h2) (by rw [opC1 b3.1 hT, h1, h2]; rfl)
        rw [sm] at S1
        simp only [ob_s]
        exact S1
    · rw [if_pos (show ¬ bI true = 0 by decide), if_pos rfl, if_neg (show ¬ bI true = 0 by decide)]
      have S1 := side (-8) 7 (.inr (.inr (.inl ⟨rfl, rfl⟩))) (iss_m hT b3.1.1 h1) (by rw [opC1 b3.1 hT, h1]; rfl)
      rw [sm] at S1
      simp only [ob_s]
      exact S1
  · have b1' : gtX1_readLevel n 0 (w + 11) (nI (1 + 1)) (nI de) t = some (0, t1) := b1
    have b2' : gtX10_products n' 1 (nI de) t' = some t1' := b2
    have ft : FT t1' := ⟨F, b3, b4, b6⟩
    rw [b1', b2', ob_2, if_neg (by decide), ob_s, ft.isSign, ob_s, ft.hasSign, ob_2, if_neg (by decide), ft.hasSign, ob_2, if_pos rfl, ob_s]
    exact .inr ⟨F, cd, t1, t1', rfl, rfl, b3, b4, b5, b6, b7, by omega, b9, b10⟩
end
