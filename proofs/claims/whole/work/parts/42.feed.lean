/-! ===== PURE: feed, see, mark, count ===== -/
section
variable {v nh nd st a b n m : Nat} {V : Nat → Nat → Nat} {S : Nat → Nat → Int32} {t0 t0' t t' : tS}
theorem by_e (x : Int64) {s : Nat} (hs : s < 57) : (((x.toUInt64 >>> ((nI s).toInt64.toUInt64 &&& Int64.toUInt64 63)).toInt64).toInt32) &&& (255 : Int32) = ((x >>> ((nI s).toInt64 &&& 63)).toInt32) &&& (255 : Int32) := by
  have d1 : ∀ s < 57, ((nI s).toInt64.toUInt64 &&& Int64.toUInt64 63) = UInt64.ofNat s := by decide
  have d2 : ∀ s < 57, ((nI s).toInt64 &&& 63) = Int64.ofNat s := by decide
  have d3 : ∀ s < 57, ((UInt64.ofNat s).toBitVec % 64).toNat = s := by decide
  have d4 : ∀ s < 57, ((Int64.ofNat s).toBitVec.smod 64).toNat = s := by decide
  rw [d1 s hs, d2 s hs]
  apply Int32.toBitVec_inj.1
  rw [Int32.toBitVec_and, Int32.toBitVec_and, Int64.toBitVec_toInt32, Int64.toBitVec_toInt32, Int64.toBitVec_shiftRight]
  have e1 : (x.toUInt64 >>> UInt64.ofNat s).toInt64.toBitVec = x.toBitVec >>> s := by
    show (x.toUInt64 >>> UInt64.ofNat s).toBitVec = _
    rw [UInt64.toBitVec_shiftRight, BitVec.ushiftRight_eq', d3 s hs]
    rfl
  have e2 : x.toBitVec.sshiftRight' ((Int64.ofNat s).toBitVec.smod 64) = x.toBitVec.sshiftRight s := by
    unfold BitVec.sshiftRight'
    rw [d4 s hs]
  rw [e1, e2]
  apply BitVec.eq_of_getLsbD_eq
  intro i hi
  rw [BitVec.getLsbD_and, BitVec.getLsbD_and]
  by_cases c : i < 8
  · congr 1
    rw [BitVec.getLsbD_signExtend, BitVec.getLsbD_signExtend, if_pos (by omega), if_pos (by omega), BitVec.getLsbD_ushiftRight, BitVec.getLsbD_sshiftRight, if_pos (by omega)]
    rw [decide_eq_false (show ¬ 64 ≤ i by omega)]
    simp
  · have d5 : ∀ i < 32, ¬ i < 8 → (255 : Int32).toBitVec.getLsbD i = false := by decide
    rw [d5 i hi c, Bool.and_false, Bool.and_false]
theorem by_n (x : Int32) : ∃ c, c < 256 ∧ x &&& (255 : Int32) = nI c := by
  refine ⟨(x &&& (255 : Int32)).toBitVec.toNat, ?_, ?_⟩
  · rw [Int32.toBitVec_and, BitVec.toNat_and]
    exact Nat.lt_of_le_of_lt Nat.and_le_right (by decide)
  · apply Int32.toBitVec_inj.1
    show _ = BitVec.ofNat 32 _
    rw [BitVec.ofNat_toNat, BitVec.setWidth_eq]
/-- what feed may change -/
def FY (t t1 : tS) : Prop := (∀ b k, ¬ (b = 1 ∧ k = 1) → t1.1 b k = t.1 b k) ∧ (∀ b i, b ≠ 2 → t1.2.1 b i = t.2.1 b i) ∧ t1.2.2 = t.2.2
def FZ (t t1 : tS) : Prop := (∀ b k, ¬ (b = 218 ∧ (k = 2 ∨ k = 0)) → t1.1 b k = t.1 b k) ∧ (∀ b i, b ≠ 219 → t1.2.1 b i = t.2.1 b i) ∧ t1.2.2 = t.2.2
theorem FY.rf : FY t t := ⟨fun _ _ _ => rfl, fun _ _ _ => rfl, rfl⟩
theorem FZ.rf : FZ t t := ⟨fun _ _ _ => rfl, fun _ _ _ => rfl, rfl⟩
theorem FY.tr {t1 t2 : tS} (h : FY t t1) (g : FY t1 t2) : FY t t2 := ⟨fun b k hb => (g.1 b k hb).trans (h.1 b k hb), fun b i hb => (g.2.1 b i hb).trans (h.2.1 b i hb), g.2.2.trans h.2.2⟩
theorem FZ.tr {t1 t2 : tS} (h : FZ t t1) (g : FZ t1 t2) : FZ t t2 := ⟨fun b k hb => (g.1 b k hb).trans (h.1 b k hb), fun b i hb => (g.2.1 b i hb).trans (h.2.1 b i hb), g.2.2.trans h.2.2⟩
theorem nar_2 {c : Nat} (h : c < 127) : am_nar 2 ((nI c).toInt8.toInt32) = nI c := by
  have : ∀ c < 127, am_nar 2 ((nI c).toInt8.toInt32) = nI c := by decide +kernel
  exact this c h
theorem nar_0 {x : Int32} : am_nar 0 x = x := (rfl)
/-- one sign is fed -/
theorem feed1 {c : Nat} (hc : c < 256) (h : TP t t') : ∃ t1 t1', tX7_add (nI c) t = some t1 ∧ ((if nI c = (10 : Int32) then if (1000 : Int32) ≤ (t'.1 218 2) then some t' else (tWA t' 0 219 1000 (t'.1 218 2) (nI c)).bind fun tt10 => (some (uI tt10 218 2 ((tt10.1 218 2) + (1 : Int32)))).bind fun tt15 => some tt15 else if nI c < (32 : Int32) then some t' else if (126 : Int32) < nI c then some t' else if (1000 : Int32) ≤ (t'.1 218 2) then some t' else (tWA t' 0 219 1000 (t'.1 218 2) (nI c)).bind fun tt25 => (some (uI tt25 218 2 ((tt25.1 218 2) + (1 : Int32)))).bind fun tt30 => some tt30) = some t1') ∧ TP t1 t1' ∧ FY t t1 ∧ FZ t' t1' := by
  have h0 := h
  obtain ⟨L, f, h1, h2, h3, h4⟩ := h
  have wr : (c = 10 ∨ (32 ≤ c ∧ c ≤ 126)) → L < 1000 → TP (uI (uA t 2 L (nI c)) 1 1 (nI (L + 1))) (uI (uA t' 219 L (nI c)) 218 2 (nI (L + 1))) ∧ FY t (uI (uA t 2 L (nI c)) 1 1 (nI (L + 1))) ∧ FZ t' (uI (uA t' 219 L (nI c)) 218 2 (nI (L + 1))) := by
    intro g1 g2
    refine ⟨⟨L + 1, fun i => if i = L then c else f i, by omega, uI_s, uI_s, ?_⟩, ⟨?_, ?_, rfl⟩, ⟨?_, ?_, rfl⟩⟩
    · intro i hi
      show _ ∧ (uA t 2 L (nI c)).2.1 2 i = _ ∧ (uA t' 219 L (nI c)).2.1 219 i = _
      rw [uA_2, uA_2]
      by_cases e : i = L
      · simp only [e, if_true, and_self]
        exact ⟨g1, trivial⟩
      · simp only [e, if_false, and_false]
        exact h4 i (by omega)
    · intro b k hb
      rw [uI_o (by omega)]
      rfl
    · intro b i hb
      show (uA t 2 L (nI c)).2.1 b i = _
      rw [uA_2, if_neg (by omega)]
    · intro b k hb
      rw [uI_o (by omega)]
      rfl
    · intro b i hb
      show (uA t' 219 L (nI c)).2.1 b i = _
      rw [uA_2, if_neg (by omega)]
  have w1 : (uA t 2 L (nI c)).1 1 1 = nI L := h2
  have w2 : (uA t' 219 L (nI c)).1 218 2 = nI L := h3
  unfold tX7_add
  rw [nN_of]
  simp (disch := omega) only [nN_le, nN_eql, nN_ltl, nN_llt, nN_lle, h2, h3, wi_e.1]
  by_cases c1 : 1000 ≤ L
  · simp only [eq_true c1, tA_e, tA_l, tW0_e, tW0_l, nN_al, nN_la, nN_ad, nN_lm, nN_ml, nN_le, nN_lt, nN_eq, nN_lel, nN_lle, nN_ltl, nN_llt, nN_eql, nN_rm, nN_dv, ob_s, ob_2, ob_3, ite_true, ite_false, not_true_eq_false, not_false_eq_true, ite_self, eq_self, Nat.add_zero]
    exact ⟨_, _, rfl, rfl, h0, FY.rf, FZ.rf⟩
  · by_cases c2 : c = 10
    · subst c2
      have n1 := nar_2 (c := 10) (by omega)
      obtain ⟨a1, a2, a3⟩ := wr (.inl rfl) (by omega)
      simp (disch := omega) only [c1, tA_e, tA_l, tW0_e, tW0_l, nN_al, nN_la, nN_ad, nN_lm, nN_ml, nN_le, nN_lt, nN_eq, nN_lel, nN_lle, nN_ltl, nN_llt, nN_eql, nN_rm, nN_dv, ob_s, ob_2, ob_3, ite_true, ite_false, not_true_eq_false, not_false_eq_true, ite_self, eq_self, Nat.add_zero, tWA_e, nar_0, n1, w1, w2]
      exact ⟨_, _, rfl, rfl, a1, a2, a3⟩
    · by_cases c3 : c < 32
      · have e : decide (32 ≤ c ∧ c ≤ 126) = false := decide_eq_false (by omega)
        simp (disch := omega) only [c1, c2, eq_true c3, tA_e, tA_l, tW0_e, tW0_l, nN_al, nN_la, nN_ad, nN_lm, nN_ml, nN_le, nN_lt, nN_eq, nN_lel, nN_lle, nN_ltl, nN_llt, nN_eql, nN_rm, nN_dv, ob_s, ob_2, ob_3, ite_true, ite_false, not_true_eq_false, not_false_eq_true, ite_self, eq_self, Nat.add_zero, e, bI_0]
        exact ⟨_, _, rfl, rfl, h0, FY.rf, FZ.rf⟩
      · by_cases c4 : 126 < c
        · have e : decide (32 ≤ c ∧ c ≤ 126) = false := decide_eq_false (by omega)
          simp (disch := omega) only [c1, c2, c3, eq_true c4, tA_e, tA_l, tW0_e, tW0_l, nN_al, nN_la, nN_ad, nN_lm, nN_ml, nN_le, nN_lt, nN_eq, nN_lel, nN_lle, nN_ltl, nN_llt, nN_eql, nN_rm, nN_dv, ob_s, ob_2, ob_3, ite_true, ite_false, not_true_eq_false, not_false_eq_true, ite_self, eq_self, Nat.add_zero, e, bI_0]
          exact ⟨_, _, rfl, rfl, h0, FY.rf, FZ.rf⟩
        · have e : decide (32 ≤ c ∧ c ≤ 126) = true := decide_eq_true (by omega)
          have n1 := nar_2 (c := c) (by omega)
          obtain ⟨a1, a2, a3⟩ := wr (.inr (by omega)) (by omega)
          simp (disch := omega) only [c1, c2, c3, c4, tA_e, tA_l, tW0_e, tW0_l, nN_al, nN_la, nN_ad, nN_lm, nN_ml, nN_le, nN_lt, nN_eq, nN_lel, nN_lle, nN_ltl, nN_llt, nN_eql, nN_rm, nN_dv, ob_s, ob_2, ob_3, ite_true, ite_false, not_true_eq_false, not_false_eq_true, ite_self, eq_self, Nat.add_zero, e, bI_0, Bool.true_eq_false, tWA_e, nar_0, n1, w1, w2]
          exact ⟨_, _, rfl, rfl, a1, a2, a3⟩
def shK (k : Nat) : Int32 := nI (8 * k) - 8
theorem fdL {x : Int64} : ∀ (k f f' : Nat) (t t' : tS), TP t t' → k ≤ 8 → k < f → k < f' → ∃ t1 t1', tX9_feedBytes_L3 f x (shK k) t = some t1 ∧ tX10_lay_L3 f' x (shK k) t' = some t1' ∧ TP t1 t1' ∧ FY t t1 ∧ FZ t' t1' := by
  have s1 : shK 0 < 0 := by decide
  have s2 : ∀ k < 8, ¬ shK (k + 1) < 0 := by decide
  have s3 : ∀ k < 8, shK (k + 1) + (-8 : Int32) = shK k := by decide
  have s4 : ∀ k < 8, shK (k + 1) = nI (8 * k) := by decide
  intro k
  induction k with
  | zero =>
    intro f f' t t' h hk hf hf'
    obtain ⟨f, rfl⟩ : ∃ g, f = g + 1 := ⟨f - 1, by omega⟩
    obtain ⟨f', rfl⟩ : ∃ g, f' = g + 1 := ⟨f' - 1, by omega⟩
    rw [tX9_feedBytes_L3, tX10_lay_L3, if_pos s1, if_pos s1]
    exact ⟨_, _, rfl, rfl, h, FY.rf, FZ.rf⟩
  | succ k ih =>
    intro f f' t t' h hk hf hf'
    obtain ⟨f, rfl⟩ : ∃ g, f = g + 1 := ⟨f - 1, by omega⟩
    obtain ⟨f', rfl⟩ : ∃ g, f' = g + 1 := ⟨f' - 1, by omega⟩
    rw [tX9_feedBytes_L3, tX10_lay_L3, if_neg (s2 k (by omega)), if_neg (s2 k (by omega)), s3 k (by omega)]
    have hb := by_e x (s := 8 * k) (by omega)
    rw [← s4 k (by omega)] at hb
    rw [hb]
    obtain ⟨c, hc, e⟩ := by_n ((x >>> ((shK (k + 1)).toInt64 &&& 63)).toInt32)
    rw [e]
    obtain ⟨t1, t1', e1, e2, e3, e4, e5⟩ := feed1 hc h
    obtain ⟨t2, t2', f1, f2, f3, f4, f5⟩ := ih f f' t1 t1' e3 (by omega) (by omega) (by omega)
    rw [e1, ob_s, f1, e2, ob_s, f2]
    exact ⟨_, _, rfl, rfl, f3, e4.tr f4, e5.tr f5⟩
theorem fdB {x : Int64} (h : TP t t') : ∃ t1 t1', tX9_feedBytes x t = some t1 ∧ tX10_lay x t' = some t1' ∧ TP t1 t1' ∧ FY t t1 ∧ FZ t' t1' := by
  obtain ⟨t1, t1', e1, e2, e3⟩ := fdL (x := x) 8 4000 4000 t t' h (by omega) (by omega) (by omega)
  rw [show shK 8 = (56 : Int32) from by decide] at e1 e2
  unfold tX9_feedBytes tX10_lay
  rw [e1, e2]
  exact ⟨_, _, rfl, rfl, e3⟩
theorem GP.fed {w p q N N1 : Nat} {t1 t1' : tS} (h : GP v w p q nh nd st V N t t') (hy : FY t t1) (hz : FZ t' t1') (ht : TP t1 t1') (hN : N ≤ N1) (hN1 : N1 ≤ 1000) : GP v w p q nh nd st V N1 t1 t1' := by
  have h4 := h.h4
  have h6 := h.h6
  obtain ⟨k1, k2, k3, k4, k5, k6, k7, k8, k9, k10, ⟨ns, kd, k11⟩, k12, k13⟩ := h
  have fa : ∀ b k, b ≠ 1 → t1.1 b k = t.1 b k := fun b k hb => hy.1 b k (by omega)
  have st' : ∀ a b, 3 ≤ a → ST nh nd st V a b N t t' → ST nh nd st V a b N1 t1 t1' := by
    intro a b ha hs
    refine hs.to hN (fun n m S hc => hc.ag (fa _ _ (by omega)) (fa _ _ (by omega)) (fa _ _ (by omega)) (fun j i _ _ => hy.2.1 _ _ (by omega))) (fun n m S hc => hc.copy h4 h6 (fun j hj => hz.2.1 _ _ (by omega)) (fun j => hz.2.1 _ _ (by omega)))
  have se' : ∀ a b, 3 ≤ a → SE nh a b t t' → SE nh a b t1 t1' := by
    intro a b ha hs
    exact hs.ag (fa _ _ (by omega)) (fun i _ => hy.2.1 _ _ (by omega)) (fun i _ => hy.2.1 _ _ (by omega)) (fun j _ _ => hz.2.1 _ _ (by omega))
  refine ⟨k1, k2, by rw [hy.2.2]; exact k3, ?_, st' _ _ (by omega) k5, ?_, ?_, se' _ _ (by omega) k8, ?_, ht, ⟨ns, kd, ?_⟩, ?_, hN1⟩
  · exact k4.ag (fun k => fa _ _ (by omega)) (fun j i _ _ => hy.2.1 _ _ (by omega)) (fa _ _ (by omega)) (fun i => hy.2.1 _ _ (by omega)) (fun i => hz.2.1 _ _ (by omega)) (fun i => hz.2.1 _ _ (by omega)) (fun i => hz.2.1 _ _ (by omega))
  · exact k6.to hN (fa _ _ (by omega)) (fa _ _ (by omega)) (hz.1 _ _ (by omega)) (fun s r _ _ hs => st' _ _ (by omega) hs)
  · intro m hm
    rw [fa _ _ (by omega), hz.2.1 235 m (by omega)]
    rcases k7 m hm with g | ⟨g1, g2, g3, g4⟩
    · exact .inl g
    · exact .inr ⟨g1, g2, st' _ _ (by omega) g3, se' _ _ (by omega) g4⟩
  · exact k9.ag (fun k => fa _ _ (by omega)) (fun j i _ _ => hy.2.1 _ _ (by omega)) (fun i => hz.2.1 _ _ (by omega))
  · exact k11.ag (fun i => by rw [hy.2.2]) (fun i => by rw [hy.2.2]) (hz.1 _ _ (by omega)) (fun i => by rw [hz.2.2]) (fun i => hz.2.1 _ _ (by omega))
  · exact k12.ag (fun i => by rw [hz.2.2])
theorem g_feed {N : Nat} (h : GR N t t') (hN : N + 1 ≤ 1000) (x y z : Int64) : QG (N + 1) (tX9_feed x y z t) (tX10_feed x y z t') := by
  obtain ⟨v, w, p, q, nh, nd, st, V, h⟩ := h
  have h0 : FZ t' (uI t' 218 0 0) := ⟨fun b k hb => uI_o (by omega), fun _ _ _ => rfl, rfl⟩
  have tp : TP t (uI t' 218 0 0) := h.2.2.2.2.2.2.2.2.2.1.ag rfl (fun _ => rfl) (uI_o (by omega)) (fun _ => rfl)
  obtain ⟨t1, t1', a1, a2, a3, a4, a5⟩ := fdB (x := x) tp
  obtain ⟨t2, t2', b1, b2, b3, b4, b5⟩ := fdB (x := y) a3
  obtain ⟨t3, t3', c1, c2, c3, c4, c5⟩ := fdB (x := z) b3
  unfold tX9_feed tX10_feed
  simp only [ob_s, a1, a2, b1, b2, c1, c2]
  have c0 := c3
  obtain ⟨L, f, g1, g2, g3, g4⟩ := c3
  rw [g2, g3]
  exact ⟨_, _, _, rfl, rfl, v, w, p, q, nh, nd, st, V, h.fed ((a4.tr b4).tr c4) (((h0.tr a5).tr b5).tr c5) c0 (by omega) hN⟩
/-- what see and mark may change -/
def YS (t t1 : tS) : Prop := (∀ b k, ¬ (3 ≤ b ∧ b ≤ 178) → t1.1 b k = t.1 b k) ∧ (∀ b i, ¬ (3 ≤ b ∧ b ≤ 181) → t1.2.1 b i = t.2.1 b i) ∧ t1.2.2 = t.2.2
def ZS (t t1 : tS) : Prop := (∀ c k, ¬ (c = 218 ∧ (k = 0 ∨ k = 25)) → t1.1 c k = t.1 c k) ∧ (∀ c i, c ≠ 234 → c ≠ 235 → t1.2.1 c i = t.2.1 c i) ∧ t1.2.2 = t.2.2
theorem GP.s {w p q N N1 : Nat} {t1 t1' : tS} (h : GP v w p q nh nd st V N t t') (hy : YS t t1) (hz : ZS t' t1') (hs : ST nh nd st V 3 0 N1 t1 t1') (hh : HI nh nd st V N1 t1 t1') (hm : MK nh nd st V N1 t1 t1') (he : SE nh 176 0 t1 t1') (hN1 : N1 ≤ 1000) : GP v w p q nh nd st V N1 t1 t1' := by
  obtain ⟨k1, k2, k3, k4, k5, k6, k7, k8, k9, k10, ⟨ns, kd, k11⟩, k12, k13⟩ := h
  refine ⟨k1, k2, by rw [hy.2.2]; exact k3, ?_, hs, hh, hm, he, ?_, ?_, ⟨ns, kd, ?_⟩, ?_, hN1⟩
  · exact k4.ag (fun k => hy.1 _ _ (by omega)) (fun j i _ _ => hy.2.1 _ _ (by omega)) (hy.1 _ _ (by omega)) (fun i => hy.2.1 _ _ (by omega)) (fun i => hz.2.1 _ _ (by omega) (by omega)) (fun i => hz.2.1 _ _ (by omega) (by omega)) (fun i => hz.2.1 _ _ (by omega) (by omega))
  · exact k9.ag (fun k => hy.1 _ _ (by omega)) (fun j i _ _ => hy.2.1 _ _ (by omega)) (fun i => hz.2.1 _ _ (by omega) (by omega))
  · exact k10.ag (hy.1 _ _ (by omega)) (fun i => hy.2.1 _ _ (by omega)) (hz.1 _ _ (by omega)) (fun i => hz.2.1 _ _ (by omega) (by omega))
  · exact k11.ag (fun i => by rw [hy.2.2]) (fun i => by rw [hy.2.2]) (hz.1 _ _ (by omega)) (fun i => by rw [hz.2.2]) (fun i => hz.2.1 _ _ (by omega) (by omega))
  · exact k12.ag (fun i => by rw [hz.2.2])
theorem see_in {w p q N : Nat} (h : GP v w p q nh nd st V N t t') (hN : N + 1 ≤ 1000) {x y : Int32} (hx : x = -1 ∨ NN x nh) (hy : NN y 25) : QG (N + 1) (am_b2 (tX5_add 176 x y t) fun x8 tt10 => (am_z01 x8).bind fun b12 => some (b12, tt10)) ((tA (uI t' 218 0 0) 234 1081 (30 : Int32)).bind fun x11 => if ¬ x11 = (8 : Int32) then (tA (uI t' 218 0 0) 234 1081 (30 : Int32)).bind fun x15 => (tWA (uI t' 218 0 0) 0 234 1081 ((31 : Int32) + ((2 : Int32) * x15)) x).bind fun tt19 => (tWA tt19 0 234 1081 (((31 : Int32) + ((2 : Int32) * x15)) + (1 : Int32)) y).bind fun tt24 => (tA tt24 234 1081 (30 : Int32)).bind fun x28 => (tWA tt24 0 234 1081 (30 : Int32) (x28 + (1 : Int32))).bind fun tt31 => some ((1 : Int32), tt31) else some ((0 : Int32), uI t' 218 0 0)) := by
  have h4 := h.h4
  have h6 := h.h6
  have h0 := h
  obtain ⟨k1, k2, k3, k4, k5, k6, k7, ⟨k, q1, q2, q3, q4⟩, k9⟩ := h
  have q3' : (uI t' 218 0 0).2.1 234 30 = nI k := q3
  unfold tX5_add
  by_cases c : k = 8
  · have c2 : ¬ k < 8 := by omega
    simp (disch := omega) only [tA_e, tA_l, tW0_e, tW0_l, nN_al, nN_la, nN_ad, nN_lm, nN_ml, nN_le, nN_lt, nN_eq, nN_lel, nN_lle, nN_ltl, nN_llt, nN_eql, nN_rm, nN_dv, ob_s, ob_2, ob_3, ite_true, ite_false, not_true_eq_false, not_false_eq_true, ite_self, eq_self, Nat.add_zero, decide_true, decide_false, decide_not, Bool.not_true, Bool.not_false, Bool.true_and, Bool.false_and, Bool.and_true, Bool.and_false, Bool.or_true, Bool.true_or, Bool.or_false, Bool.false_or, if_true, if_false, Bool.false_eq_true, z01_0, z01_1, q2, q3', eq_true c, c2]
    exact QG.no h0 hN
  · have c2 : k < 8 := by omega
    have w1 : (uA t 177 k x).1 176 2 = nI k := q2
    have w2 : (uA (uA t 177 k x) 178 k y).1 176 2 = nI k := q2
    have w3 : (uA (uA (uI t' 218 0 0) 234 (31 + 2 * k) x) 234 (31 + 2 * k + 1) y).2.1 234 30 = nI k := by
      rw [uA_2, if_neg (by omega), uA_2, if_neg (by omega)]
      exact q3
    simp (disch := omega) only [tA_e, tA_l, tW0_e, tW0_l, nN_al, nN_la, nN_ad, nN_lm, nN_ml, nN_le, nN_lt, nN_eq, nN_lel, nN_lle, nN_ltl, nN_llt, nN_eql, nN_rm, nN_dv, ob_s, ob_2, ob_3, ite_true, ite_false, not_true_eq_false, not_false_eq_true, ite_self, eq_self, Nat.add_zero, decide_true, decide_false, decide_not, Bool.not_true, Bool.not_false, Bool.true_and, Bool.false_and, Bool.and_true, Bool.and_false, Bool.or_true, Bool.true_or, Bool.or_false, Bool.false_or, if_true, if_false, Bool.false_eq_true, z01_0, z01_1, q2, q3', c, eq_true c2, w1, w2, w3]
    have ya : ∀ b j, ¬ (b = 176 ∧ j = 2) → (uI (uA (uA t 177 k x) 178 k y) 176 2 (nI (k + 1))).1 b j = t.1 b j := fun b j hb => uI_o hb
    have yb : ∀ b i, b ≠ 177 → b ≠ 178 → (uI (uA (uA t 177 k x) 178 k y) 176 2 (nI (k + 1))).2.1 b i = t.2.1 b i := by
      intro b i h1 h2
      show (uA (uA t 177 k x) 178 k y).2.1 b i = _
      rw [uA_2, if_neg (by omega), uA_2, if_neg (by omega)]
    have za : ∀ c j, ¬ (c = 218 ∧ j = 0) → (uA (uA (uA (uI t' 218 0 0) 234 (31 + 2 * k) x) 234 (31 + 2 * k + 1) y) 234 30 (nI (k + 1))).1 c j = t'.1 c j := fun c j hc => uI_o hc
    have zb : ∀ c i, ¬ (c = 234 ∧ 30 ≤ i ∧ i < 47) → (uA (uA (uA (uI t' 218 0 0) 234 (31 + 2 * k) x) 234 (31 + 2 * k + 1) y) 234 30 (nI (k + 1))).2.1 c i = t'.2.1 c i := by
      intro c i hc
      rw [uA_2, if_neg (by omega), uA_2, if_neg (by omega), uA_2, if_neg (by omega)]
      rfl
    have st' : ∀ a b, (a + 7 ≤ 176) → (b + 30 ≤ 30 ∨ 47 ≤ b) → ST nh nd st V a b N t t' → ST nh nd st V a b (N + 1) (uI (uA (uA t 177 k x) 178 k y) 176 2 (nI (k + 1))) (uA (uA (uA (uI t' 218 0 0) 234 (31 + 2 * k) x) 234 (31 + 2 * k + 1) y) 234 30 (nI (k + 1))) := by
      intro a b ha hb hs
      exact hs.to (by omega) (fun n m S hc => hc.ag (ya _ _ (by omega)) (ya _ _ (by omega)) (ya _ _ (by omega)) (fun j i _ _ => yb _ _ (by omega) (by omega))) (fun n m S hc => hc.copy h4 h6 (fun j hj => zb _ _ (by omega)) (fun j => zb _ _ (by omega)))
    refine ⟨_, _, _, rfl, rfl, v, w, p, q, nh, nd, st, V, h0.s ⟨fun b j hb => ya _ _ (by omega), fun b i hb => yb _ _ (by omega) (by omega), rfl⟩ ⟨fun c j hc => za _ _ (by omega), fun c i h1 h2 => zb _ _ (by omega), rfl⟩ (st' _ _ (by omega) (by omega) k5) ?_ ?_ ?_ hN⟩
    · exact k6.to (by omega) (ya _ _ (by omega)) (ya _ _ (by omega)) (za _ _ (by omega)) (fun s r _ _ hs => st' _ _ (by omega) (by omega) hs)
    · intro m hm
      rw [ya _ _ (by omega), zb 235 m (by omega)]
      rcases k7 m hm with g | ⟨g1, g2, g3, g4⟩
      · exact .inl g
      · exact .inr ⟨g1, g2, st' _ _ (by omega) (by omega) g3, g4.ag (ya _ _ (by omega)) (fun i _ => yb _ _ (by omega) (by omega)) (fun i _ => yb _ _ (by omega) (by omega)) (fun j _ _ => zb _ _ (by omega))⟩
    · refine ⟨k + 1, by omega, uI_s, ?_, ?_⟩
      · rw [uA_2, if_pos ⟨rfl, rfl⟩]
      · intro i hi
        show (uA (uA (uA (uI t' 218 0 0) 234 (31 + 2 * k) x) 234 (31 + 2 * k + 1) y) 234 30 (nI (k + 1))).2.1 234 (0 + (31 + 2 * i)) = (uA (uA t 177 k x) 178 k y).2.1 177 i ∧ (uA (uA (uA (uI t' 218 0 0) 234 (31 + 2 * k) x) 234 (31 + 2 * k + 1) y) 234 30 (nI (k + 1))).2.1 234 (0 + (32 + 2 * i)) = (uA (uA t 177 k x) 178 k y).2.1 178 i ∧ ((uA (uA t 177 k x) 178 k y).2.1 177 i = -1 ∨ NN ((uA (uA t 177 k x) 178 k y).2.1 177 i) nh) ∧ NN ((uA (uA t 177 k x) 178 k y).2.1 178 i) 25
        by_cases ci : i = k
        · subst ci
          have e1 : (uA (uA t 177 i x) 178 i y).2.1 177 i = x := by
            rw [uA_2, if_neg (by omega), uA_2, if_pos ⟨rfl, rfl⟩]
          have e2 : (uA (uA t 177 i x) 178 i y).2.1 178 i = y := by
            rw [uA_2, if_pos ⟨rfl, rfl⟩]
          rw [e1, e2]
          refine ⟨?_, ?_, hx, hy⟩
          · rw [uA_2, if_neg (by omega), uA_2, if_neg (by omega), uA_2, if_pos (by omega)]
          · rw [uA_2, if_neg (by omega), uA_2, if_pos (by omega)]
        · have e1 : (uA (uA t 177 k x) 178 k y).2.1 177 i = t.2.1 177 i := by
            rw [uA_2, if_neg (by omega), uA_2, if_neg (by omega)]
          have e2 : (uA (uA t 177 k x) 178 k y).2.1 178 i = t.2.1 178 i := by
            rw [uA_2, if_neg (by omega), uA_2, if_neg (by omega)]
          rw [e1, e2]
          obtain ⟨g1, g2, g3, g4⟩ := q4 i (by omega)
          refine ⟨?_, ?_, g3, g4⟩
          · rw [uA_2, if_neg (by omega), uA_2, if_neg (by omega), uA_2, if_neg (by omega)]
            exact g1
          · rw [uA_2, if_neg (by omega), uA_2, if_neg (by omega), uA_2, if_neg (by omega)]
            exact g2
theorem g_see {N : Nat} (h : GR N t t') (hN : N + 1 ≤ 1000) (x y : Int32) : QG (N + 1) (tX9_see x y t) (tX10_see x y t') := by
  obtain ⟨v, w, p, q, nh, nd, st, V, h⟩ := h
  have hb := h.2.2.2.1.isHouse h.2.2.1.1 (x := x)
  have hb' : tX10_isHouse x (uI t' 218 0 0) = some (bI (inr x nh)) := hb.2
  unfold tX9_see tX10_see
  simp only [ob_s, hb.1, hb', wi_e.1, wi_e.2, bI_0]
  have ny : ∀ z : decide ((0 : Int32) ≤ y ∧ y ≤ 24) = true, NN y 25 := by
    intro z
    obtain ⟨k, _, h2, h3⟩ := wi_n (lo := 0) (hi := 24) (by decide) (by decide) z
    exact ⟨k, by omega, h3⟩
  by_cases c : x = -1
  · cases hw : decide ((0 : Int32) ≤ y ∧ y ≤ 24)
    · simp only [eq_true c, tA_e, tA_l, tW0_e, tW0_l, nN_al, nN_la, nN_ad, nN_lm, nN_ml, nN_le, nN_lt, nN_eq, nN_lel, nN_lle, nN_ltl, nN_llt, nN_eql, nN_rm, nN_dv, ob_s, ob_2, ob_3, ite_true, ite_false, not_true_eq_false, not_false_eq_true, ite_self, eq_self, Nat.add_zero, decide_true, decide_false, decide_not, Bool.not_true, Bool.not_false, Bool.true_and, Bool.false_and, Bool.and_true, Bool.and_false, Bool.or_true, Bool.true_or, Bool.or_false, Bool.false_or, if_true, if_false, Bool.false_eq_true, z01_0, z01_1]
      exact QG.no h hN
    · simp only [eq_true c, ite_true, ite_false, Bool.true_eq_false, not_false_eq_true]
      exact see_in h hN (.inl c) (ny hw)
  · cases hi : inr x nh
    · simp only [c, tA_e, tA_l, tW0_e, tW0_l, nN_al, nN_la, nN_ad, nN_lm, nN_ml, nN_le, nN_lt, nN_eq, nN_lel, nN_lle, nN_ltl, nN_llt, nN_eql, nN_rm, nN_dv, ob_s, ob_2, ob_3, ite_true, ite_false, not_true_eq_false, not_false_eq_true, ite_self, eq_self, Nat.add_zero, decide_true, decide_false, decide_not, Bool.not_true, Bool.not_false, Bool.true_and, Bool.false_and, Bool.and_true, Bool.and_false, Bool.or_true, Bool.true_or, Bool.or_false, Bool.false_or, if_true, if_false, Bool.false_eq_true, z01_0, z01_1]
      exact QG.no h hN
    · cases hw : decide ((0 : Int32) ≤ y ∧ y ≤ 24)
      · simp only [c, tA_e, tA_l, tW0_e, tW0_l, nN_al, nN_la, nN_ad, nN_lm, nN_ml, nN_le, nN_lt, nN_eq, nN_lel, nN_lle, nN_ltl, nN_llt, nN_eql, nN_rm, nN_dv, ob_s, ob_2, ob_3, ite_true, ite_false, not_true_eq_false, not_false_eq_true, ite_self, eq_self, Nat.add_zero, decide_true, decide_false, decide_not, Bool.not_true, Bool.not_false, Bool.true_and, Bool.false_and, Bool.and_true, Bool.and_false, Bool.or_true, Bool.true_or, Bool.or_false, Bool.false_or, if_true, if_false, Bool.false_eq_true, z01_0, z01_1, Bool.true_eq_false]
        exact QG.no h hN
      · simp only [c, ite_true, ite_false, Bool.true_eq_false, not_false_eq_true]
        exact see_in h hN (.inr (inr_t hi)) (ny hw)
end
