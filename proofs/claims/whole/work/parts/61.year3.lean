/-! ===== PURE: year, the call ===== -/
section
variable {v nh nd st a b n m : Nat} {V : Nat → Nat → Nat} {S : Nat → Nat → Int32} {t0 t0' t t' : tS}
variable {c so pl bh : Nat → Nat} {L M k : Nat}
theorem ylL {q : Nat} {ns : Nat → List Nat} {kd : Nat → Nat} (hT : TK c L M so pl bh) (hq : q = 210 ∨ q = 214) (hv : v = 182 ∨ v = 196) (h4 : nh ≤ 4) (h6 : nd ≤ 6) : ∀ (r k n f f' : Nat) (t t' : tS), YST c L M so pl bh nh nd q k n t t' → NM v nh nd 227 229 18 ns kd t t' → t.1 v 11 = nI nh → t.1 v 12 = nI nd → M - k ≤ r → r < f → r + 1 < f' → (∃ n1 t1 t1', n1 ≤ 40 ∧ tX4_readPlan_L11 f v q (nI n) t = some (.inl t1) ∧ tX10_year_L11 f' (nI n) t' = some (nI n1, t1') ∧ t1'.1 218 8 = nI 0 ∧ t1.1 q 3 = nI n1 ∧ (∀ i, i < n1 → LN nh nd (t1.2.1 (q + 1) i) (t1.2.1 (q + 2) i) (t1.2.1 (q + 3) i) (t1'.2.1 231 (125 + 3 * i)) (t1'.2.1 231 (125 + 3 * i + 1)) (t1'.2.1 231 (125 + 3 * i + 2))) ∧ YC q t t1 ∧ YM t' t1') ∨ (∃ F y t1 t1', tX4_readPlan_L11 f v q (nI n) t = some (.inr (nI F, t1)) ∧ tX10_year_L11 f' (nI n) t' = some (y, t1') ∧ 0 < F ∧ F < 100000 ∧ t1'.1 218 8 = nI F ∧ YC q t t1 ∧ YM t' t1') := by
  have hM := hT.2.2.1
  have hL := hT.1
  have stop : ∀ (k n f f' : Nat) (t t' : tS), YST c L M so pl bh nh nd q k n t t' → so k = 0 → (∃ n1 t1 t1', n1 ≤ 40 ∧ tX4_readPlan_L11 (f + 1) v q (nI n) t = some (.inl t1) ∧ tX10_year_L11 (f' + 1) (nI n) t' = some (nI n1, t1') ∧ t1'.1 218 8 = nI 0 ∧ t1.1 q 3 = nI n1 ∧ (∀ i, i < n1 → LN nh nd (t1.2.1 (q + 1) i) (t1.2.1 (q + 2) i) (t1.2.1 (q + 3) i) (t1'.2.1 231 (125 + 3 * i)) (t1'.2.1 231 (125 + 3 * i + 1)) (t1'.2.1 231 (125 + 3 * i + 2))) ∧ YC q t t1 ∧ YM t' t1') := by
    intro k n f f' t t' h hs
    obtain ⟨hp, h2, h3, hl⟩ := h
    have tA0 : tA t' 220 1002 (nI k) = some (nI (so k)) := by rw [tA_e (by have := hp.1; omega) (by omega), (hp.2.2.1 k hp.1).1]
    rw [tX4_readPlan_L11, if_neg (by rw [nN_llt (by omega) (by decide)]; omega), hp.ce hT, ob_s, decide_eq_true hs, if_pos (by decide), tX10_year_L11, hp.2.2.2.2.2, if_neg (by decide), hp.2.2.2.2.1, tA0, ob_s, hs, if_pos (show nI 0 = (0 : Int32) from rfl)]
    exact ⟨n, t, t', h2, rfl, rfl, hp.2.2.2.2.2, h3, hl, YC.rf, YM.rf⟩
  intro r
  induction r with
  | zero =>
    intro k n f f' t t' h hn c1 c2 hr hf hf'
    obtain ⟨f, rfl⟩ : ∃ g, f = g + 1 := ⟨f - 1, by omega⟩
    obtain ⟨f', rfl⟩ : ∃ g, f' = g + 1 := ⟨f' - 1, by omega⟩
    have hk : k = M := by have := h.1.1; omega
    exact .inl (stop k n f f' t t' h (by rw [hk]; exact hT.2.2.2.2.2.1))
  | succ r ih =>
    intro k n f f' t t' h hn c1 c2 hr hf hf'
    obtain ⟨f, rfl⟩ : ∃ g, f = g + 1 := ⟨f - 1, by omega⟩
    obtain ⟨f', rfl⟩ : ∃ g, f' = g + 1 := ⟨f' - 1, by omega⟩
    by_cases hs : so k = 0
    · exact .inl (stop k n f f' t t' h hs)
    · have h2 := h.2.1
      rw [tX4_readPlan_L11, if_neg (by rw [nN_llt (by omega) (by decide)]; omega), h.1.ce hT, ob_s, decide_eq_false hs, if_neg (by decide), nN_al]
      rcases yline hT hq hv h hn h4 h6 c1 c2 hs with ⟨k1, t1, t1', a0, a1, a2, a3, a4, a5, a6⟩ | ⟨F, y, t1, t1', a1, a2, a3, a4, a5, a6, a7, a8⟩
      · rw [a2, ob_2, if_pos (by decide), a3 f']
        rcases ih k1 (n + 1) f f' t1 t1' a4 (hn.yr a5 a6) ((a5.1 _ _ (by omega) (by omega)).trans c1) ((a5.1 _ _ (by omega) (by omega)).trans c2) (by omega) (by omega) (by omega) with ⟨n1, t2, t2', b1, b2, b3, b4, b5, b6, b7, b8⟩ | ⟨F, y, t2, t2', b1, b2, b3, b4, b5, b6, b7⟩
        · exact .inl ⟨n1, t2, t2', b1, b2, b3, b4, b5, b6, a5.tr b7, a6.tr b8⟩
        · exact .inr ⟨F, y, t2, t2', b1, b2, b3, b4, b5, a5.tr b6, a6.tr b7⟩
      · obtain ⟨f', rfl⟩ : ∃ g, f' = g + 1 := ⟨f' - 1, by omega⟩
        rw [a1, ob_2, if_neg (by decide), a2 f', a5]
        exact .inr ⟨F, y, t1, t1', rfl, rfl, a3, a4, a6, a7, a8⟩
theorem y178 {n : Nat} (hn : n ≤ 40) : ∀ (r i f : Nat) (T : tS), i + r = 3 * n → r < f → ∃ T1, tX10_year_L178 f (nI n) (nI i) T = some T1 ∧ T1.1 = T.1 ∧ (∀ b j, ¬ (b = 231 ∧ 1 + i ≤ j ∧ j < 1 + 3 * n) → T1.2.1 b j = T.2.1 b j) ∧ T1.2.2 = T.2.2 ∧ ∀ j, i ≤ j → j < 3 * n → T1.2.1 231 (1 + j) = T.2.1 231 (125 + j) := by
  intro r
  induction r with
  | zero =>
    intro i f T hi hf
    obtain ⟨f, rfl⟩ : ∃ g, f = g + 1 := ⟨f - 1, by omega⟩
    have c1 : 3 * n ≤ i := by omega
    rw [tX10_year_L178]
    simp (disch := omega) only [tA_e, tA_l, tW0_e, tW0_l, nN_al, nN_la, nN_ad, nN_lm, nN_ml, nN_le, nN_lt, nN_eq, nN_lel, nN_lle, nN_ltl, nN_llt, nN_eql, nN_rm, nN_dv, ob_s, ob_2, ob_3, ite_true, ite_false, not_true_eq_false, not_false_eq_true, ite_self, eq_self, Nat.add_zero, c1]
    exact ⟨_, rfl, rfl, fun _ _ _ => rfl, rfl, fun j _ _ => by omega⟩
  | succ r ih =>
    intro i f T hi hf
    obtain ⟨f, rfl⟩ : ∃ g, f = g + 1 := ⟨f - 1, by omega⟩
    have c1 : ¬ 3 * n ≤ i := by omega
    rw [tX10_year_L178]
    simp (disch := omega) only [tA_e, tA_l, tW0_e, tW0_l, nN_al, nN_la, nN_ad, nN_lm, nN_ml, nN_le, nN_lt, nN_eq, nN_lel, nN_lle, nN_ltl, nN_llt, nN_eql, nN_rm, nN_dv, ob_s, ob_2, ob_3, ite_true, ite_false, not_true_eq_false, not_false_eq_true, ite_self, eq_self, Nat.add_zero, c1]
    obtain ⟨T1, e1, e2, e3, e4, e5⟩ := ih (i + 1) f (uA T 231 (1 + i) (T.2.1 231 (125 + i))) (by omega) (by omega)
    refine ⟨T1, e1, e2, ?_, e4, ?_⟩
    · intro b j hb
      rw [e3 b j (by omega), uA_o (by omega)]
    · intro j h1 h2
      by_cases e : j = i
      · subst e
        rw [e3 _ _ (by omega), uA_s]
      · rw [e5 j (by omega) h2, uA_o (by omega)]
/-- what year may change -/
def YW (t t1 : tS) : Prop := (∀ b j, b ≠ 1 → b ≠ 210 → b ≠ 214 → t1.1 b j = t.1 b j) ∧ (∀ b i, ¬ (211 ≤ b ∧ b ≤ 217) → t1.2.1 b i = t.2.1 b i) ∧ t1.2.2.1 = t.2.2.1
def ZW (t t1 : tS) : Prop := (∀ b j, ¬ (b = 218 ∧ (j = 0 ∨ j = 2 ∨ j = 3 ∨ j = 7 ∨ j = 8)) → t1.1 b j = t.1 b j) ∧ (∀ b i, b ≠ 220 → b ≠ 221 → b ≠ 231 → t1.2.1 b i = t.2.1 b i) ∧ (∀ b i, b ≠ 222 → t1.2.2.1 b i = t.2.2.1 b i)
theorem GP.yr {w p q p1 q1 N N1 : Nat} {t1 t1' : tS} (h : GP v w p q nh nd st V N t t') (hy : YW t t1) (hz : ZW t' t1') (hpq : (p1 = 210 ∧ q1 = 214) ∨ (p1 = 214 ∧ q1 = 210)) (hr : t1.2.2.2.2 0 9 = v ∧ t1.2.2.2.2 0 10 = w ∧ t1.2.2.2.2 0 11 = p1 ∧ t1.2.2.2.2 0 12 = q1) (hl : PL nh nd p1 t1 t1') (ht : TP t1 t1') (hN : N ≤ N1) (hN1 : N1 ≤ 1000) : GP v w p1 q1 nh nd st V N1 t1 t1' := by
  have h4 := h.h4
  have h6 := h.h6
  have hv := h.1
  obtain ⟨k1, k2, k3, k4, k5, k6, k7, k8, k9, k10, ⟨ns, kd, k11⟩, k12, k13⟩ := h
  have fa : ∀ b k, 3 ≤ b → b < 210 → t1.1 b k = t.1 b k := fun b k h1 h2 => hy.1 b k (by omega) (by omega) (by omega)
  have fb2 : ∀ b k, 3 ≤ b → b < 210 → t1.2.1 b k = t.2.1 b k := fun b k h1 h2 => hy.2.1 b k (by omega)
  have st' : ∀ a b, 3 ≤ a → a + 7 < 182 → ST nh nd st V a b N t t' → ST nh nd st V a b N1 t1 t1' := by
    intro a b ha ha2 hs
    refine hs.to hN (fun n m S hc => hc.ag (fa _ _ (by omega) (by omega)) (fa _ _ (by omega) (by omega)) (fa _ _ (by omega) (by omega)) (fun j i _ _ => fb2 _ _ (by omega) (by omega))) (fun n m S hc => hc.copy h4 h6 (fun j hj => hz.2.1 _ _ (by omega) (by omega) (by omega)) (fun j => hz.2.1 _ _ (by omega) (by omega) (by omega)))
  have se' : ∀ a b, 3 ≤ a → a + 3 < 182 → SE nh a b t t' → SE nh a b t1 t1' := by
    intro a b ha ha2 hs
    exact hs.ag (fa _ _ (by omega) (by omega)) (fun i _ => fb2 _ _ (by omega) (by omega)) (fun i _ => fb2 _ _ (by omega) (by omega)) (fun j _ _ => hz.2.1 _ _ (by omega) (by omega) (by omega))
  refine ⟨k1, hpq, hr, ?_, st' _ _ (by omega) (by omega) k5, ?_, ?_, se' _ _ (by omega) (by omega) k8, hl, ht, ⟨ns, kd, ?_⟩, ?_, hN1⟩
  · exact k4.ag (fun k => fa _ _ (by omega) (by omega)) (fun j i _ _ => fb2 _ _ (by omega) (by omega)) (fa _ _ (by omega) (by omega)) (fun i => fb2 _ _ (by omega) (by omega)) (fun i => hz.2.1 _ _ (by omega) (by omega) (by omega)) (fun i => hz.2.1 _ _ (by omega) (by omega) (by omega)) (fun i => hz.2.1 _ _ (by omega) (by omega) (by omega))
  · exact k6.to hN (fa _ _ (by omega) (by omega)) (fa _ _ (by omega) (by omega)) (hz.1 _ _ (by omega)) (fun s r _ _ hs => st' _ _ (by omega) (by omega) hs)
  · intro m hm
    rw [fa _ _ (by omega) (by omega), hz.2.1 235 m (by omega) (by omega) (by omega)]
    rcases k7 m hm with g | ⟨g1, g2, g3, g4⟩
    · exact .inl g
    · exact .inr ⟨g1, g2, st' _ _ (by omega) (by omega) g3, se' _ _ (by omega) (by omega) g4⟩
  · exact k11.ag (fun i => by rw [hy.2.2]) (fun i => by rw [hy.2.2]) (hz.1 _ _ (by omega)) (fun i => hz.2.2 _ _ (by omega)) (fun i => hz.2.1 _ _ (by omega) (by omega) (by omega))
  · exact k12.ag (fun i => hz.2.2 _ _ (by omega))
/-- what a call of the class, and of the reference, leaves alone -/
def FX (t t1 : tS) : Prop := (∀ b k, 218 ≤ b → t1.1 b k = t.1 b k) ∧ (∀ b i, 218 ≤ b → t1.2.1 b i = t.2.1 b i) ∧ (∀ b i, 218 ≤ b → t1.2.2.1 b i = t.2.2.1 b i)
def FM (t t1 : tS) : Prop := (∀ b k, b < 218 → t1.1 b k = t.1 b k) ∧ (∀ b i, b < 218 → t1.2.1 b i = t.2.1 b i) ∧ (∀ b i, b < 218 → t1.2.2.1 b i = t.2.2.1 b i) ∧ ∀ b, b < 218 → t1.2.2.2.2 b = t.2.2.2.2 b
/-- a call: answers alike, all that lasts again, and what each left alone -/
def QH (N : Nat) (o o' : Option (Int32 × tS)) (t t' : tS) : Prop := ∃ r t1 t1', o = some (r, t1) ∧ o' = some (r, t1') ∧ GR N t1 t1' ∧ FX t t1 ∧ FM t' t1'
theorem YW.fx {t1 : tS} (h : YW t t1) : FX t t1 := ⟨fun b k g => h.1 b k (by omega) (by omega) (by omega), fun b i g => h.2.1 b i (by omega), fun b i g => by rw [h.2.2]⟩
theorem ZW.fm {t1 : tS} (h : ZW t t1) (hr : t1.2.2.2.2 = t.2.2.2.2) : FM t t1 := ⟨fun b k g => h.1 b k (by omega), fun b i g => h.2.1 b i (by omega) (by omega) (by omega), fun b i g => h.2.2 b i (by omega), fun b _ => by rw [hr]⟩
theorem g_year {N : Nat} (h : GR N t t') (hN : N + 1 ≤ 1000) : QH (N + 1) (tX9_year t) (tX10_year t') t t' := by
  obtain ⟨v, w, p, q, nh, nd, st, V, h⟩ := h
  have h4 := h.h4
  have h6 := h.h6
  have hv := h.qr.1
  have hpq := h.2.1
  obtain ⟨rv, rw', rp, rq⟩ := h.2.2.1
  have tp : TP t (uI t' 218 0 0) := h.2.2.2.2.2.2.2.2.2.1.ag rfl (fun _ => rfl) (uI_o (by omega)) (fun _ => rfl)
  obtain ⟨c, L, M, so, pl, bh, T', a1, a2, a3, a4, a5, a6, a7, a8, a9, a10, a11, a12⟩ := cut_e tp
  obtain ⟨ns, kd, hn⟩ := h.2.2.2.2.2.2.2.2.2.2.1
  have b := h.2.2.2.1
  -- the class begins
  have w3 : (uI (uI (uI t q 3 0) 1 7 0) 1 3 0).1 1 3 = nI (bh 0) := by rw [uI_s, a2.2.2.2.1]; rfl
  have hctx : CTX c L (uI (uI (uI t q 3 0) 1 7 0) 1 3 0) := ⟨by rw [uI_o (by omega), uI_o (by omega), uI_o (by omega)]; exact a11, a12⟩
  obtain ⟨T, e1, e2, e3⟩ := stp a2 (k := 0) (by omega) hctx w3
  have yc0 : YC q t T := (YC.tr (t1 := uI t q 3 0) ⟨fun b j h1 h2 => uI_o (by omega), fun _ _ _ => rfl, rfl, rfl⟩ ((CO1.wI.tr CO1.wI).yc)).tr e3.co.yc
  have wdT : WD T' := h.2.2.2.2.2.2.2.2.2.2.2.1.ag (fun i => by rw [a9 _ _ (by omega)]; rfl)
  have pc0 : PC c L M so pl bh 0 T T' := ⟨by omega, e2, a3, wdT, a4, a5⟩
  have q30 : T.1 q 3 = nI 0 := by rw [e3.1 _ _ (by omega), uI_o (by omega), uI_o (by omega), uI_s]; rfl
  have yst : YST c L M so pl bh nh nd q 0 0 T T' := ⟨pc0, by omega, q30, fun i hi => by omega⟩
  have hn1 : NM v nh nd 227 229 18 ns kd T T' := hn.ag (fun i => by rw [yc0.2.2.1]) (fun i => by rw [yc0.2.2.1]) (by rw [a7 _ _ (by omega)]; exact uI_o (by omega)) (fun i => by rw [a9 _ _ (by omega)]; rfl) (fun i => by rw [a8 _ _ (by omega) (by omega)]; rfl)
  have c1 : T.1 v 11 = nI nh := (yc0.1 _ _ (by omega) (by omega)).trans b.2.2.1.1
  have c2 : T.1 v 12 = nI nd := (yc0.1 _ _ (by omega) (by omega)).trans b.2.2.1.2.1
  have hz0 : ZW t' T' := by
    refine ⟨fun b j hb => ?_, fun b i h1 h2 h3 => ?_, fun b i h1 => ?_⟩
    · rw [a7 _ _ (by omega)]
      exact uI_o (by omega)
    · rw [a8 _ _ h1 h2]
      rfl
    · rw [a9 _ _ h1]
      rfl
  have zz : ∀ T1', YM T' T1' → ZW t' T1' := by
    intro T1' g
    refine ⟨fun b j hb => (g.1 _ _ (by omega)).trans (hz0.1 _ _ hb), fun b i h1 h2 h3 => (g.2.1 _ _ (by omega)).trans (hz0.2.1 _ _ h1 h2 h3), fun b i h1 => ?_⟩
    rw [g.2.2]
    exact hz0.2.2 _ _ h1
  have yw : ∀ T1, YC q t T1 → YW t T1 := fun T1 g => ⟨fun b j h1 h2 h3 => g.1 _ _ h1 (by omega), fun b i h1 => g.2.1 _ _ (by omega), g.2.2.1⟩
  have s11 : ∀ T1', YM T' T1' → T1'.1 218 2 = nI 0 := fun T1' g => (g.1 _ _ (by omega)).trans a6
  have rp0 : tX4_readPlan v q t = ((tX4_readPlan_L11 4000 v q 0 T).bind fun o23 => match o23 with | .inl tt21 => some ((0 : Int32), tt21) | .inr y24 => some y24) := by
    unfold tX4_readPlan tX7_begin
    simp only [ob_s, e1]
    rfl
  unfold tX9_year tX10_year
  rw [rv, rq, rp0]
  simp only [ob_s, a1]
  rcases ylL a2 (by omega) hv h4 h6 M 0 0 4000 4000 T T' yst hn1 c1 c2 (by omega) (by have := a2.1; have := a2.2.2.1; omega) (by have := a2.1; have := a2.2.2.1; omega) with ⟨n1, t1, t1', g1, g2, g3, g4, g5, g6, g7, g8⟩ | ⟨F, y, t1, t1', g2, g3, g4, g5, g6, g7, g8⟩
  · have g2' : tX4_readPlan_L11 4000 v q 0 T = some (.inl t1) := g2
    have g3' : tX10_year_L11 4000 0 T' = some (nI n1, t1') := g3
    obtain ⟨T2, d1, d2, d3, d4, d5⟩ := y178 g1 (3 * n1) 0 4000 (uA t1' 231 0 (nI n1)) (by omega) (by omega)
    have d1' : tX10_year_L178 4000 (nI n1) 0 (uA t1' 231 0 (nI n1)) = some T2 := d1
    have w0 : tWA t1' 0 231 250 0 (nI n1) = some (uA t1' 231 0 (nI n1)) := tW0_e (k := 0) (by omega) (by omega)
    have r11 : (uI t1 1 1 0).2.2.2.2 0 12 = q := by
      show t1.2.2.2.2 0 12 = q
      rw [(yc0.tr g7).2.2.2]
      exact rq
    have r12 : (uI t1 1 1 0).2.2.2.2 0 11 = p := by
      show t1.2.2.2.2 0 11 = p
      rw [(yc0.tr g7).2.2.2]
      exact rp
    rw [g2', g3']
    simp only [ob_s, ob_2]
    rw [g4, if_pos (show (nI 0 : Int32) ≤ 0 by decide), if_neg (by simp), r11, r12, w0]
    simp only [ob_s, d1']
    have Yw : YW t (uR (uR (uI t1 1 1 0) 0 11 q) 0 12 p) := by
      obtain ⟨u1, u2, u3⟩ := yw t1 (yc0.tr g7)
      exact ⟨fun b j k1 k2 k3 => (uI_o (by omega)).trans (u1 b j k1 k2 k3), u2, u3⟩
    have Zw : ZW t' T2 := by
      obtain ⟨u1, u2, u3⟩ := zz t1' g8
      refine ⟨fun b j k1 => by rw [d2]; exact u1 b j k1, fun b i k1 k2 k3 => ?_, fun b i k1 => ?_⟩
      · rw [d3 _ _ (by omega), uA_o (by omega)]
        exact u2 b i k1 k2 k3
      · rw [d4]
        exact u3 b i k1
    have Rr : T2.2.2.2.2 = t'.2.2.2.2 := by
      rw [d4]
      show t1'.2.2.2.2 = _
      rw [g8.2.2, a10]
      rfl
    refine ⟨0, _, _, rfl, rfl, ⟨v, w, q, p, nh, nd, st, V, h.yr Yw Zw (by omega) ?_ ?_ ?_ (by omega) hN⟩, Yw.fx, Zw.fm Rr⟩
    · show up2 (up2 t1.2.2.2.2 0 11 q) 0 12 p 0 9 = v ∧ up2 (up2 t1.2.2.2.2 0 11 q) 0 12 p 0 10 = w ∧ up2 (up2 t1.2.2.2.2 0 11 q) 0 12 p 0 11 = q ∧ up2 (up2 t1.2.2.2.2 0 11 q) 0 12 p 0 12 = p
      refine ⟨?_, ?_, ?_, up2_s⟩
      · rw [up2_d (by decide), up2_d (by decide), (yc0.tr g7).2.2.2]
        exact rv
      · rw [up2_d (by decide), up2_d (by decide), (yc0.tr g7).2.2.2]
        exact rw'
      · rw [up2_d (by decide), up2_s]
    · refine ⟨n1, g1, ?_, ?_, fun i hi => ?_⟩
      · show (uI t1 1 1 0).1 q 3 = _
        rw [uI_o (by omega)]
        exact g5
      · rw [d3 _ _ (by omega), uA_s]
      · have f1 := d5 (3 * i) (by omega) (by omega)
        have f2 := d5 (3 * i + 1) (by omega) (by omega)
        have f3 := d5 (3 * i + 2) (by omega) (by omega)
        rw [uA_o (by omega)] at f1 f2 f3
        rw [show 2 + 3 * i = 1 + (3 * i + 1) from by omega, show 3 + 3 * i = 1 + (3 * i + 2) from by omega, f1, f2, f3]
        exact g6 i hi
    · refine ⟨0, fun _ => 0, by omega, ?_, ?_, fun i hi => by omega⟩
      · show (uI t1 1 1 0).1 1 1 = _
        rw [uI_s]
        rfl
      · rw [d2]
        exact s11 t1' g8
  · have g2' : tX4_readPlan_L11 4000 v q 0 T = some (.inr (nI F, t1)) := g2
    have g3' : tX10_year_L11 4000 0 T' = some (y, t1') := g3
    have ft : FT t1' := ⟨F, g4, g5, g6⟩
    have nF : ¬ nI F = 0 := by rw [← g6]; exact ft.n0
    rw [g2', g3']
    simp only [ob_s, ob_2]
    rw [if_neg ft.nl, if_pos nF, g6]
    simp only [ob_s]
    have Yw : YW t (uI t1 1 1 0) := by
      obtain ⟨u1, u2, u3⟩ := yw t1 (yc0.tr g7)
      exact ⟨fun b j k1 k2 k3 => (uI_o (by omega)).trans (u1 b j k1 k2 k3), u2, u3⟩
    have Rr : t1'.2.2.2.2 = t'.2.2.2.2 := by
      rw [g8.2.2, a10]
      rfl
    refine ⟨nI F, _, _, rfl, rfl, ⟨v, w, p, q, nh, nd, st, V, h.yr Yw (zz t1' g8) hpq ?_ ?_ ?_ (by omega) hN⟩, Yw.fx, (zz t1' g8).fm Rr⟩
    · show t1.2.2.2.2 0 9 = v ∧ t1.2.2.2.2 0 10 = w ∧ t1.2.2.2.2 0 11 = p ∧ t1.2.2.2.2 0 12 = q
      rw [(yc0.tr g7).2.2.2]
      exact ⟨rv, rw', rp, rq⟩
    · obtain ⟨X, x1, x2, x3, x4⟩ := h.2.2.2.2.2.2.2.2.1
      have g9 := yc0.tr g7
      have zm : ∀ i, i < 125 → t1'.2.1 231 i = t'.2.1 231 i := by
        intro i hi
        rw [g8.2.1 _ _ (by omega), a8 _ _ (by omega) (by omega)]
        rfl
      refine ⟨X, x1, ?_, ?_, fun i hi => ?_⟩
      · rw [uI_o (by omega), g9.1 _ _ (by omega) (by omega)]
        exact x2
      · rw [zm _ (by omega)]
        exact x3
      · show LN nh nd (t1.2.1 (p + 1) i) (t1.2.1 (p + 2) i) (t1.2.1 (p + 3) i) _ _ _
        rw [zm _ (by omega), zm _ (by omega), zm _ (by omega), g9.2.1 _ _ (by omega), g9.2.1 _ _ (by omega), g9.2.1 _ _ (by omega)]
        exact x4 i hi
    · exact ⟨0, fun _ => 0, by omega, by rw [uI_s]; rfl, s11 t1' g8, fun i hi => by omega⟩
end
