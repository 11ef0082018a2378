/-! ===== PURE: names told ===== -/
section
variable {v nh nd st a b n m : Nat} {V : Nat → Nat → Nat} {S : Nat → Nat → Int32} {t0 t0' t t' : tS}
variable {c so pl bh : Nat → Nat} {L M k : Nat}
theorem hnL {x : Int64} (h : t.1 v 11 = nI nh) (h4 : nh ≤ 4) : ∀ (r j f : Nat), j + r = nh → r < f → (∃ i, j ≤ i ∧ i < nh ∧ t.2.2.1 (v + 1) i = x ∧ tX8_houseNamed_L2 f v x (nI j) t = some (.inr (nI i))) ∨ ((∀ i, j ≤ i → i < nh → ¬ t.2.2.1 (v + 1) i = x) ∧ tX8_houseNamed_L2 f v x (nI j) t = some (.inl ())) := by
  intro r
  induction r with
  | zero =>
    intro j f hj hf
    obtain ⟨f, rfl⟩ : ∃ g, f = g + 1 := ⟨f - 1, by omega⟩
    obtain rfl : j = nh := by omega
    rw [tX8_houseNamed_L2, h, if_pos (Int32.le_refl _)]
    exact .inr ⟨fun i _ _ => by omega, rfl⟩
  | succ r ih =>
    intro j f hj hf
    obtain ⟨f, rfl⟩ : ∃ g, f = g + 1 := ⟨f - 1, by omega⟩
    rw [tX8_houseNamed_L2, h, if_neg (by rw [nN_le (by omega) (by omega)]; omega), tB_e (by omega) (by omega), ob_s, nN_al]
    by_cases e : t.2.2.1 (v + 1) j = x
    · rw [if_neg (fun q => q ((lg_cmp_eq _ _).2 e))]
      exact .inl ⟨j, Nat.le_refl _, by omega, e, rfl⟩
    · rw [if_pos (fun q => e ((lg_cmp_eq _ _).1 q))]
      rcases ih (j + 1) f (by omega) (by omega) with ⟨i, a1, a2, a3, a4⟩ | ⟨a1, a2⟩
      · exact .inl ⟨i, by omega, a2, a3, a4⟩
      · refine .inr ⟨fun i g1 g2 => ?_, a2⟩
        by_cases z : i = j
        · rw [z]; exact e
        · exact a1 i (by omega) g2
theorem hn_e {x : Int64} (h : t.1 v 11 = nI nh) (h4 : nh ≤ 4) : (∃ i, i < nh ∧ t.2.2.1 (v + 1) i = x ∧ tX8_houseNamed v x t = some (nI i)) ∨ ((∀ i, i < nh → ¬ t.2.2.1 (v + 1) i = x) ∧ tX8_houseNamed v x t = some (-1)) := by
  unfold tX8_houseNamed
  rcases hnL (x := x) h h4 nh 0 4000 (by omega) (by omega) with ⟨i, a1, a2, a3, a4⟩ | ⟨a1, a2⟩
  · have a4' : tX8_houseNamed_L2 4000 v x 0 t = some (.inr (nI i)) := a4
    rw [a4']
    exact .inl ⟨i, a2, a3, rfl⟩
  · have a2' : tX8_houseNamed_L2 4000 v x 0 t = some (.inl ()) := a2
    rw [a2']
    exact .inr ⟨fun i hi => a1 i (by omega) hi, rfl⟩
theorem dnL {x : Int64} (h : t.1 v 12 = nI nd) (h4 : nd ≤ 6) : ∀ (r j f : Nat), j + r = nd → r < f → (∃ i, j ≤ i ∧ i < nd ∧ t.2.2.1 (v + 4) i = x ∧ tX8_dayNamed_L2 f v x (nI j) t = some (.inr (nI i))) ∨ ((∀ i, j ≤ i → i < nd → ¬ t.2.2.1 (v + 4) i = x) ∧ tX8_dayNamed_L2 f v x (nI j) t = some (.inl ())) := by
  intro r
  induction r with
  | zero =>
    intro j f hj hf
    obtain ⟨f, rfl⟩ : ∃ g, f = g + 1 := ⟨f - 1, by omega⟩
    obtain rfl : j = nd := by omega
    rw [tX8_dayNamed_L2, h, if_pos (Int32.le_refl _)]
    exact .inr ⟨fun i _ _ => by omega, rfl⟩
  | succ r ih =>
    intro j f hj hf
    obtain ⟨f, rfl⟩ : ∃ g, f = g + 1 := ⟨f - 1, by omega⟩
    rw [tX8_dayNamed_L2, h, if_neg (by rw [nN_le (by omega) (by omega)]; omega), tB_e (by omega) (by omega), ob_s, nN_al]
    by_cases e : t.2.2.1 (v + 4) j = x
    · rw [if_neg (fun q => q ((lg_cmp_eq _ _).2 e))]
      exact .inl ⟨j, Nat.le_refl _, by omega, e, rfl⟩
    · rw [if_pos (fun q => e ((lg_cmp_eq _ _).1 q))]
      rcases ih (j + 1) f (by omega) (by omega) with ⟨i, a1, a2, a3, a4⟩ | ⟨a1, a2⟩
      · exact .inl ⟨i, by omega, a2, a3, a4⟩
      · refine .inr ⟨fun i g1 g2 => ?_, a2⟩
        by_cases z : i = j
        · rw [z]; exact e
        · exact a1 i (by omega) g2
theorem dn_e {x : Int64} (h : t.1 v 12 = nI nd) (h4 : nd ≤ 6) : (∃ i, i < nd ∧ t.2.2.1 (v + 4) i = x ∧ tX8_dayNamed v x t = some (nI i)) ∨ ((∀ i, i < nd → ¬ t.2.2.1 (v + 4) i = x) ∧ tX8_dayNamed v x t = some (-1)) := by
  unfold tX8_dayNamed
  rcases dnL (x := x) h h4 nd 0 4000 (by omega) (by omega) with ⟨i, a1, a2, a3, a4⟩ | ⟨a1, a2⟩
  · have a4' : tX8_dayNamed_L2 4000 v x 0 t = some (.inr (nI i)) := a4
    rw [a4']
    exact .inl ⟨i, a2, a3, rfl⟩
  · have a2' : tX8_dayNamed_L2 4000 v x 0 t = some (.inl ()) := a2
    rw [a2']
    exact .inr ⟨fun i hi => a1 i (by omega) hi, rfl⟩
/-- which names the reference looks among: those being read (1), or told (0) -/
def RD (fl : Int32) (bn bo bm : Nat) : Prop := (fl = 1 ∧ bn = 228 ∧ bo = 230 ∧ bm = 19) ∨ (fl = 0 ∧ bn = 227 ∧ bo = 229 ∧ bm = 18)
theorem naL {fl : Int32} {bn bo bm N : Nat} {x : Int64} (hr : RD fl bn bo bm) (hN : N ≤ 10) (h1 : t'.1 218 bm = nI N) (h2 : tB t' 222 1002 (t'.1 218 7) = some x) : ∀ (r j f : Nat), j + r = N → r < f → (∃ i, j ≤ i ∧ i < N ∧ t'.2.2.1 bn i = x ∧ tX10_nameAt_L2 f fl (nI j) t' = some (.inr (t'.2.1 bo i))) ∨ ((∀ i, j ≤ i → i < N → ¬ t'.2.2.1 bn i = x) ∧ tX10_nameAt_L2 f fl (nI j) t' = some (.inl ())) := by
  have z9 : ¬ (1 : Int32) = 0 := by decide
  intro r
  induction r with
  | zero =>
    intro j f hj hf
    obtain ⟨f, rfl⟩ : ∃ g, f = g + 1 := ⟨f - 1, by omega⟩
    obtain rfl : j = N := by omega
    rw [tX10_nameAt_L2]
    rcases hr with ⟨rfl, rfl, rfl, rfl⟩ | ⟨rfl, rfl, rfl, rfl⟩
    · rw [if_neg z9, ob_s, h1, if_pos (Int32.le_refl _)]
      exact .inr ⟨fun i _ _ => by omega, rfl⟩
    · rw [if_pos rfl, ob_s, h1, if_pos (Int32.le_refl _)]
      exact .inr ⟨fun i _ _ => by omega, rfl⟩
  | succ r ih =>
    intro j f hj hf
    obtain ⟨f, rfl⟩ : ∃ g, f = g + 1 := ⟨f - 1, by omega⟩
    have I := ih (j + 1) f (by omega) (by omega)
    have lift : ¬ t'.2.2.1 bn j = x → (∃ i, j ≤ i ∧ i < N ∧ t'.2.2.1 bn i = x ∧ tX10_nameAt_L2 f fl (nI (j + 1)) t' = some (.inr (t'.2.1 bo i))) ∨ ((∀ i, j ≤ i → i < N → ¬ t'.2.2.1 bn i = x) ∧ tX10_nameAt_L2 f fl (nI (j + 1)) t' = some (.inl ())) := by
      intro e
      rcases I with ⟨i, a1, a2, a3, a4⟩ | ⟨a1, a2⟩
      · exact .inl ⟨i, by omega, a2, a3, a4⟩
      · refine .inr ⟨fun i g1 g2 => ?_, a2⟩
        by_cases z : i = j
        · rw [z]; exact e
        · exact a1 i (by omega) g2
    rw [tX10_nameAt_L2]
    rcases hr with ⟨rfl, rfl, rfl, rfl⟩ | ⟨rfl, rfl, rfl, rfl⟩
    · rw [if_neg z9, ob_s, h1, if_neg (by rw [nN_le (by omega) (by omega)]; omega), if_neg z9, tB_e (by omega) (by omega), ob_s, ob_s, h2, ob_s, nN_al]
      by_cases e : t'.2.2.1 228 j = x
      · rw [if_neg (fun q => q ((lg_cmp_eq _ _).2 e)), if_neg z9, tA_e (by omega) (by omega)]
        exact .inl ⟨j, Nat.le_refl _, by omega, e, rfl⟩
      · rw [if_pos (fun q => e ((lg_cmp_eq _ _).1 q))]
        exact lift e
    · rw [if_pos rfl, ob_s, h1, if_neg (by rw [nN_le (by omega) (by omega)]; omega), if_pos rfl, tB_e (by omega) (by omega), ob_s, ob_s, h2, ob_s, nN_al]
      by_cases e : t'.2.2.1 227 j = x
      · rw [if_neg (fun q => q ((lg_cmp_eq _ _).2 e)), if_pos rfl, tA_e (by omega) (by omega)]
        exact .inl ⟨j, Nat.le_refl _, by omega, e, rfl⟩
      · rw [if_pos (fun q => e ((lg_cmp_eq _ _).1 q))]
        exact lift e
theorem na_e {fl : Int32} {bn bo bm N : Nat} {x : Int64} (hr : RD fl bn bo bm) (hN : N ≤ 10) (h1 : t'.1 218 bm = nI N) (h2 : tB t' 222 1002 (t'.1 218 7) = some x) : (∃ i, i < N ∧ t'.2.2.1 bn i = x ∧ tX10_nameAt fl t' = some (t'.2.1 bo i)) ∨ ((∀ i, i < N → ¬ t'.2.2.1 bn i = x) ∧ tX10_nameAt fl t' = some (-1)) := by
  unfold tX10_nameAt
  rcases naL hr hN h1 h2 N 0 4000 (by omega) (by omega) with ⟨i, a1, a2, a3, a4⟩ | ⟨a1, a2⟩
  · have a4' : tX10_nameAt_L2 4000 fl 0 t' = some (.inr (t'.2.1 bo i)) := a4
    rw [a4']
    exact .inl ⟨i, a2, a3, rfl⟩
  · have a2' : tX10_nameAt_L2 4000 fl 0 t' = some (.inl ()) := a2
    rw [a2']
    exact .inr ⟨fun i hi => a1 i (by omega) hi, rfl⟩
/-- a word looked up among the names told -/
theorem NM.look {bn bo bm : Nat} {fl : Int32} {ns : Nat → List Nat} {kd : Nat → Nat} (h : NM v nh nd bn bo bm ns kd t t') (hr : RD fl bn bo bm) (h4 : nh ≤ 4) (h6 : nd ≤ 6) (c1 : t.1 v 11 = nI nh) (c2 : t.1 v 12 = nI nd) (hp : PC c L M so pl bh k t t') (hT : TK c L M so pl bh) (hs : so k = 1) : (∃ j, j < nh ∧ tX8_houseNamed v (t.2.2.2.1 1 6) t = some (nI j) ∧ tX8_dayNamed v (t.2.2.2.1 1 6) t = some (-1) ∧ tX10_nameAt fl t' = some (nI j)) ∨ (∃ j, j < nd ∧ tX8_houseNamed v (t.2.2.2.1 1 6) t = some (-1) ∧ tX8_dayNamed v (t.2.2.2.1 1 6) t = some (nI j) ∧ tX10_nameAt fl t' = some (nI (20 + j))) ∨ ((∀ i, i < nh + nd → ¬ ns i = tw c pl bh k) ∧ tX8_houseNamed v (t.2.2.2.1 1 6) t = some (-1) ∧ tX8_dayNamed v (t.2.2.2.1 1 6) t = some (-1) ∧ tX10_nameAt fl t' = some (-1)) := by
  have hM := hT.2.2.1
  have hL := hT.1
  have iw := (hT.w hp.1 hs).2.2.2.2.2.2
  obtain ⟨hk, ⟨a1, a3, a4, a5, a6, a7⟩, r, wd, m7, m8⟩ := hp
  obtain ⟨g1, g2, g3, g4, g5⟩ := h
  have w32 : t.2.2.2.1 1 6 = nL (enc 32 (tw c pl bh k) 0) := a6 hs
  have tB0 : tB t' 222 1002 (t'.1 218 7) = some (nL (enc 37 (tw c pl bh k) 0)) := by
    rw [m7, tB_e (by omega) (by omega), (r k hk).2.2.1 hs]
    rfl
  -- what a house's, and a day's name says of the k-th name
  have hh : ∀ j, j < nh → t.2.2.1 (v + 1) j = nL (enc 32 (tw c pl bh k) 0) → ∃ i, i < nh + nd ∧ kd i = j ∧ ns i = tw c pl bh k := by
    intro j hj e
    obtain ⟨i, i1, i2⟩ := g3 j hj
    obtain ⟨q1, q2, q3, q4⟩ := g2 i i1
    rcases q4 with ⟨q4, q5⟩ | ⟨q4, _⟩
    · refine ⟨i, i1, i2, (IW.e32 q1 iw).1 ?_⟩
      rw [← e, ← i2]
      exact q5.symm
    · omega
  have hd : ∀ j, j < nd → t.2.2.1 (v + 4) j = nL (enc 32 (tw c pl bh k) 0) → ∃ i, i < nh + nd ∧ kd i = 20 + j ∧ ns i = tw c pl bh k := by
    intro j hj e
    obtain ⟨i, i1, i2⟩ := g4 j hj
    obtain ⟨q1, q2, q3, q4⟩ := g2 i i1
    rcases q4 with ⟨q4, q5⟩ | ⟨q4, q6, q5⟩
    · omega
    · refine ⟨i, i1, i2, (IW.e32 q1 iw).1 ?_⟩
      rw [← e, show j = kd i - 20 from by omega]
      exact q5.symm
  have ha : ∀ i, i < nh + nd → (t'.2.2.1 bn i = nL (enc 37 (tw c pl bh k) 0) ↔ ns i = tw c pl bh k) := by
    intro i hi
    obtain ⟨q1, q2, q3, q4⟩ := g2 i hi
    rw [q2]
    exact IW.e37 q1 iw
  by_cases ex : ∃ i, i < nh + nd ∧ ns i = tw c pl bh k
  · obtain ⟨i, i1, i2⟩ := ex
    have na : tX10_nameAt fl t' = some (nI (kd i)) := by
      rcases na_e hr (by omega) g1 tB0 with ⟨i', e1, e2, e3⟩ | ⟨e1, e2⟩
      · have := (ha i' e1).1 e2
        obtain rfl := g5 i' i e1 i1 (this.trans i2.symm)
        rw [e3, (g2 i' e1).2.2.1]
      · exact absurd ((ha i i1).2 i2) (e1 i i1)
    obtain ⟨q1, q2, q3, q4⟩ := g2 i i1
    rcases q4 with ⟨q4, q5⟩ | ⟨q4, q6, q5⟩
    · refine .inl ⟨kd i, q4, ?_, ?_, na⟩
      · rw [w32]
        rcases hn_e (x := nL (enc 32 (tw c pl bh k) 0)) c1 h4 with ⟨j, e1, e2, e3⟩ | ⟨e1, e2⟩
        · obtain ⟨i', f1, f2, f3⟩ := hh j e1 e2
          obtain rfl := g5 i' i f1 i1 (f3.trans i2.symm)
          rw [e3, f2]
        · refine absurd ?_ (e1 (kd i) q4)
          rw [q5, i2]
          rfl
      · rw [w32]
        rcases dn_e (x := nL (enc 32 (tw c pl bh k) 0)) c2 h6 with ⟨j, e1, e2, e3⟩ | ⟨e1, e2⟩
        · obtain ⟨i', f1, f2, f3⟩ := hd j e1 e2
          obtain rfl := g5 i' i f1 i1 (f3.trans i2.symm)
          omega
        · exact e2
    · refine .inr (.inl ⟨kd i - 20, by omega, ?_, ?_, by rw [na, show 20 + (kd i - 20) = kd i from by omega]⟩)
      · rw [w32]
        rcases hn_e (x := nL (enc 32 (tw c pl bh k) 0)) c1 h4 with ⟨j, e1, e2, e3⟩ | ⟨e1, e2⟩
        · obtain ⟨i', f1, f2, f3⟩ := hh j e1 e2
          obtain rfl := g5 i' i f1 i1 (f3.trans i2.symm)
          omega
        · exact e2
      · rw [w32]
        rcases dn_e (x := nL (enc 32 (tw c pl bh k) 0)) c2 h6 with ⟨j, e1, e2, e3⟩ | ⟨e1, e2⟩
        · obtain ⟨i', f1, f2, f3⟩ := hd j e1 e2
          obtain rfl := g5 i' i f1 i1 (f3.trans i2.symm)
          rw [e3, show kd i' - 20 = j from by omega]
        · refine absurd ?_ (e1 (kd i - 20) (by omega))
          rw [q5, i2]
          rfl
  · have no : ∀ i, i < nh + nd → ¬ ns i = tw c pl bh k := fun i hi z => ex ⟨i, hi, z⟩
    refine .inr (.inr ⟨no, ?_, ?_, ?_⟩)
    · rw [w32]
      rcases hn_e (x := nL (enc 32 (tw c pl bh k) 0)) c1 h4 with ⟨j, e1, e2, e3⟩ | ⟨e1, e2⟩
      · obtain ⟨i', f1, f2, f3⟩ := hh j e1 e2
        exact absurd f3 (no i' f1)
      · exact e2
    · rw [w32]
      rcases dn_e (x := nL (enc 32 (tw c pl bh k) 0)) c2 h6 with ⟨j, e1, e2, e3⟩ | ⟨e1, e2⟩
      · obtain ⟨i', f1, f2, f3⟩ := hd j e1 e2
        exact absurd f3 (no i' f1)
      · exact e2
    · rcases na_e hr (by omega) g1 tB0 with ⟨i', e1, e2, e3⟩ | ⟨e1, e2⟩
      · exact absurd ((ha i' e1).1 e2) (no i' e1)
      · exact e2
theorem nmb_1 (h : nmb c so pl bh k = true) : so k = 1 := by
  unfold nmb at h
  simp only [Bool.and_eq_true, decide_eq_true_eq] at h
  exact h.1
/-- one told is taken: the class has looked up r, the reference looks up x -/
theorem PC.pTold (h : PC c L M so pl bh k t t') (hT : TK c L M so pl bh) {fl fr r x : Int32} {B : Nat} (hB : B < 64) (hx : nmb c so pl bh k = true → tX10_nameAt fl t' = some x) (hrx : nmb c so pl bh k = true → (∃ j, j < 6 ∧ r = nI j ∧ x - fr = nI j) ∨ (r = -1 ∧ ¬ decide ((0 : Int32) ≤ x - fr ∧ x - fr ≤ 5) = true)) : (∃ j t1 t1', r = nI j ∧ j < 6 ∧ B.testBit j = false ∧ tX4_passTold r (nI B) t = some (1, t1) ∧ t1.1 1 8 = nI j ∧ tX10_takeTold fl fr (nI B) t' = some (nI j, t1') ∧ PC c L M so pl bh (k + 1) t1 t1' ∧ CO1 t t1 ∧ RO1 t' t1') ∨ (∃ F t1 t1', tX4_passTold r (nI B) t = some (0, t1) ∧ tX10_takeTold fl fr (nI B) t' = some (0, t1') ∧ NOx F t t' t1 t1') := by
  have m8 := h.2.2.2.2.2
  have z0 : ¬ ¬ (nI 0 : Int32) = 0 := by decide
  have l0 : (nI 0 : Int32) ≤ 0 := by decide
  unfold tX4_passTold tX10_takeTold
  rw [h.cName hT, h.mName hT, m8, if_neg z0]
  simp only [ob_s]
  cases hn : nmb c so pl bh k
  · obtain ⟨F, f1, f1', g1, g2, g3⟩ := h.no hT (kd := 1) (by omega) (by omega)
    have g1' : tX7_refuse 1 t = some (0, f1) := g1
    have g2' : tX10_wrong 1 t' = some f1' := g2
    have n0 := g3.ft.n0
    have nl := g3.ft.nl
    rw [if_neg (show ¬ ¬ bI false = 0 by decide), if_neg (show ¬ ¬ bI false = 0 by decide), g1', g2']
    simp only [ob_s, ob_2, z01_0]
    rw [if_neg nl]
    simp only [ob_s]
    rw [if_pos n0, if_pos n0]
    simp only [ob_s]
    rw [if_neg nl]
    simp only [ob_s, Int32.add_zero]
    rw [uI_id, if_neg nl]
    exact .inr ⟨F, f1, f1', rfl, rfl, g3⟩
  · have hs := nmb_1 hn
    rw [if_pos (show ¬ bI true = 0 by decide), if_pos (show ¬ bI true = 0 by decide)]
    simp only [ob_s]
    rw [m8, if_pos l0, hx hn]
    simp only [ob_s, wi_e.2]
    rw [if_neg z0]
    rcases hrx hn with ⟨j, j1, rfl, j3⟩ | ⟨rfl, j3⟩
    · have nm : ¬ nI j = (-1 : Int32) := nN_ne1 (by omega)
      have inb : decide ((0 : Int32) ≤ nI j ∧ nI j ≤ 5) = true := by
        apply decide_eq_true
        rw [show (0 : Int32) = nI 0 from rfl, show (5 : Int32) = nI 5 from rfl, nN_le (by omega) (by omega), nN_le (by omega) (by omega)]
        omega
      rw [j3, inb, if_pos nm, if_pos (show ¬ bI true = 0 by decide), if_neg z0, has_e (by omega) (by omega), nN_bit (by omega) (by omega)]
      simp only [ob_s, tb_1]
      cases hb : B.testBit j
      · have h8 : PC c L M so pl bh k (uI t 1 8 (nI j)) t' := h.ag (fun j hj => uI_o (by omega)) (fun _ => rfl) rfl rfl rfl (fun _ => rfl) (fun _ => rfl) (fun _ => rfl) (fun _ => rfl)
        obtain ⟨t1, e1, e2, e3⟩ := h8.step hT (hT.mlt h.1 (by omega))
        have w8 : t1.1 1 8 = nI j := by rw [e3.1 _ _ (by omega), uI_s]
        have u8 : (uI t' 218 7 (nI (k + 1))).1 218 8 ≤ 0 := by rw [uI_o (by omega), m8]; decide
        rw [if_pos (show bI false = 0 by decide), e1, if_pos (show ¬ false = true by decide)]
        simp only [ob_s]
        rw [m8, if_pos l0]
        simp only [ob_s]
        rw [h.at1, if_pos u8]
        simp only [ob_s]
        exact .inl ⟨j, t1, _, rfl, j1, hb, rfl, w8, rfl, e2, CO1.wI.tr e3.co, RO1.wI (.inl rfl)⟩
      · obtain ⟨F, f1, f1', g1, g2, g3⟩ := h.no hT (kd := 3) (by omega) (by omega)
        have g1' : tX7_refuse 3 t = some (0, f1) := g1
        have g2' : tX10_wrong 3 t' = some f1' := g2
        have nl := g3.ft.nl
        rw [if_neg (show ¬ bI true = 0 by decide), if_neg (show ¬ ¬ true = true by decide), g1', g2']
        simp only [ob_s, ob_2, z01_0]
        rw [if_neg nl]
        simp only [ob_s, Int32.add_zero]
        rw [uI_id, if_neg nl]
        exact .inr ⟨F, f1, f1', rfl, rfl, g3⟩
    · obtain ⟨F, f1, f1', g1, g2, g3⟩ := h.no hT (kd := 2) (by omega) (by omega)
      have g1' : tX7_refuse 2 t = some (0, f1) := g1
      have g2' : tX10_wrong 2 t' = some f1' := g2
      have nl := g3.ft.nl
      have j4 : decide ((0 : Int32) ≤ x - fr ∧ x - fr ≤ 5) = false := by
        cases z : decide ((0 : Int32) ≤ x - fr ∧ x - fr ≤ 5)
        · rfl
        · exact absurd z j3
      rw [j4, if_neg (show ¬ ¬ (-1 : Int32) = -1 by decide), if_neg (show ¬ ¬ bI false = 0 by decide), g1', g2']
      simp only [ob_s, ob_2, z01_0]
      rw [if_neg nl]
      simp only [ob_s, Int32.add_zero]
      rw [uI_id, if_neg nl]
      exact .inr ⟨F, f1, f1', rfl, rfl, g3⟩
end
