/-! ===== PURE: houses and days by name; a year ===== -/
section
variable {v nh nd st a b n m : Nat} {V : Nat → Nat → Nat} {S : Nat → Nat → Int32} {t0 t0' t t' : tS}
variable {c so pl bh : Nat → Nat} {L M k : Nat}
theorem PC.pHouse {bn bo bm B : Nat} {fl : Int32} {ns : Nat → List Nat} {kd : Nat → Nat} (h : PC c L M so pl bh k t t') (hT : TK c L M so pl bh) (hn : NM v nh nd bn bo bm ns kd t t') (hr : RD fl bn bo bm) (h4 : nh ≤ 4) (h6 : nd ≤ 6) (c1 : t.1 v 11 = nI nh) (c2 : t.1 v 12 = nI nd) (hB : B < 64) : (∃ j t1 t1', j < nh ∧ B.testBit j = false ∧ tX4_passHouse v (nI B) t = some (1, t1) ∧ t1.1 1 8 = nI j ∧ tX10_takeTold fl 0 (nI B) t' = some (nI j, t1') ∧ PC c L M so pl bh (k + 1) t1 t1' ∧ CO1 t t1 ∧ RO1 t' t1') ∨ (∃ F t1 t1', tX4_passHouse v (nI B) t = some (0, t1) ∧ tX10_takeTold fl 0 (nI B) t' = some (0, t1') ∧ NOx F t t' t1 t1') := by
  have key : ∃ r x, tX8_houseNamed v (t.2.2.2.1 1 6) t = some r ∧ (nmb c so pl bh k = true → tX10_nameAt fl t' = some x) ∧ (nmb c so pl bh k = true → (∃ j, j < nh ∧ r = nI j ∧ x - 0 = nI j) ∨ (r = -1 ∧ ¬ decide ((0 : Int32) ≤ x - 0 ∧ x - 0 ≤ 5) = true)) := by
    cases hb : nmb c so pl bh k
    · rcases hn_e (x := t.2.2.2.1 1 6) c1 h4 with ⟨j, _, _, e3⟩ | ⟨_, e2⟩
      · exact ⟨_, 0, e3, fun z => absurd z (by decide), fun z => absurd z (by decide)⟩
      · exact ⟨_, 0, e2, fun z => absurd z (by decide), fun z => absurd z (by decide)⟩
    · rcases hn.look hr h4 h6 c1 c2 h hT (nmb_1 hb) with ⟨j, a1, a2, a3, a4⟩ | ⟨j, a1, a2, a3, a4⟩ | ⟨_, a2, a3, a4⟩
      · exact ⟨_, _, a2, fun _ => a4, fun _ => .inl ⟨j, a1, rfl, Int32.sub_zero _⟩⟩
      · refine ⟨_, _, a2, fun _ => a4, fun _ => .inr ⟨rfl, ?_⟩⟩
        rw [Int32.sub_zero, decide_eq_true_eq, show (5 : Int32) = nI 5 from rfl, nN_le (by omega) (by omega)]
        omega
      · exact ⟨_, _, a2, fun _ => a4, fun _ => .inr ⟨rfl, by decide⟩⟩
  obtain ⟨r, x, k1, k2, k3⟩ := key
  unfold tX4_passHouse
  rw [k1]
  simp only [ob_s]
  rcases h.pTold hT hB k2 (fun z => by
    rcases k3 z with ⟨j, j1, j2, j3⟩ | j
    · exact .inl ⟨j, by omega, j2, j3⟩
    · exact .inr j) with ⟨j, t1, t1', e1, e2, e3, e4, e5, e6, e7, e8, e9⟩ | ⟨F, t1, t1', e1, e2, e3⟩
  · have hj : j < nh := by
      have hb : nmb c so pl bh k = true := by
        cases z : nmb c so pl bh k
        · exfalso
          have q := e4
          unfold tX4_passTold at q
          rw [h.cName hT, z] at q
          simp only [ob_s] at q
          rw [if_neg (show ¬ ¬ bI false = 0 by decide)] at q
          unfold tX7_refuse at q
          simp only [ob_s, ob_2, z01_0] at q
          cases q
        · rfl
      rcases k3 hb with ⟨j', q1, q2, q3⟩ | ⟨q1, _⟩
      · rw [q2] at e1
        have := (nN_eq (by omega) (by omega)).1 e1
        omega
      · rw [q1] at e1
        exact absurd e1.symm (nN_ne1 (by omega))
    rw [e4, e6]
    exact .inl ⟨j, t1, t1', hj, e3, rfl, e5, rfl, e7, e8, e9⟩
  · rw [e1, e2]
    exact .inr ⟨F, t1, t1', rfl, rfl, e3⟩
theorem PC.pDay {bn bo bm B : Nat} {fl : Int32} {ns : Nat → List Nat} {kd : Nat → Nat} (h : PC c L M so pl bh k t t') (hT : TK c L M so pl bh) (hn : NM v nh nd bn bo bm ns kd t t') (hr : RD fl bn bo bm) (h4 : nh ≤ 4) (h6 : nd ≤ 6) (c1 : t.1 v 11 = nI nh) (c2 : t.1 v 12 = nI nd) (hB : B < 64) : (∃ j t1 t1', j < nd ∧ B.testBit j = false ∧ tX4_passDay v (nI B) t = some (1, t1) ∧ t1.1 1 8 = nI j ∧ tX10_takeTold fl 20 (nI B) t' = some (nI j, t1') ∧ PC c L M so pl bh (k + 1) t1 t1' ∧ CO1 t t1 ∧ RO1 t' t1') ∨ (∃ F t1 t1', tX4_passDay v (nI B) t = some (0, t1) ∧ tX10_takeTold fl 20 (nI B) t' = some (0, t1') ∧ NOx F t t' t1 t1') := by
  have key : ∃ r x, tX8_dayNamed v (t.2.2.2.1 1 6) t = some r ∧ (nmb c so pl bh k = true → tX10_nameAt fl t' = some x) ∧ (nmb c so pl bh k = true → (∃ j, j < nd ∧ r = nI j ∧ x - 20 = nI j) ∨ (r = -1 ∧ ¬ decide ((0 : Int32) ≤ x - 20 ∧ x - 20 ≤ 5) = true)) := by
    cases hb : nmb c so pl bh k
    · rcases dn_e (x := t.2.2.2.1 1 6) c2 h6 with ⟨j, _, _, e3⟩ | ⟨_, e2⟩
      · exact ⟨_, 0, e3, fun z => absurd z (by decide), fun z => absurd z (by decide)⟩
      · exact ⟨_, 0, e2, fun z => absurd z (by decide), fun z => absurd z (by decide)⟩
    · rcases hn.look hr h4 h6 c1 c2 h hT (nmb_1 hb) with ⟨j, a1, a2, a3, a4⟩ | ⟨j, a1, a2, a3, a4⟩ | ⟨_, a2, a3, a4⟩
      · refine ⟨_, _, a3, fun _ => a4, fun _ => .inr ⟨rfl, ?_⟩⟩
        have : ∀ j < 4, ¬ decide ((0 : Int32) ≤ nI j - 20 ∧ nI j - 20 ≤ 5) = true := by decide
        exact this j (by omega)
      · refine ⟨_, _, a3, fun _ => a4, fun _ => .inl ⟨j, a1, rfl, ?_⟩⟩
        rw [show (20 : Int32) = nI 20 from rfl, nN_su (by omega), show 20 + j - 20 = j from by omega]
      · exact ⟨_, _, a3, fun _ => a4, fun _ => .inr ⟨rfl, by decide⟩⟩
  obtain ⟨r, x, k1, k2, k3⟩ := key
  unfold tX4_passDay
  rw [k1]
  simp only [ob_s]
  rcases h.pTold hT hB k2 (fun z => by
    rcases k3 z with ⟨j, j1, j2, j3⟩ | j
    · exact .inl ⟨j, by omega, j2, j3⟩
    · exact .inr j) with ⟨j, t1, t1', e1, e2, e3, e4, e5, e6, e7, e8, e9⟩ | ⟨F, t1, t1', e1, e2, e3⟩
  · have hj : j < nd := by
      have hb : nmb c so pl bh k = true := by
        cases z : nmb c so pl bh k
        · exfalso
          have q := e4
          unfold tX4_passTold at q
          rw [h.cName hT, z] at q
          simp only [ob_s] at q
          rw [if_neg (show ¬ ¬ bI false = 0 by decide)] at q
          unfold tX7_refuse at q
          simp only [ob_s, ob_2, z01_0] at q
          cases q
        · rfl
      rcases k3 hb with ⟨j', q1, q2, q3⟩ | ⟨q1, _⟩
      · rw [q2] at e1
        have := (nN_eq (by omega) (by omega)).1 e1
        omega
      · rw [q1] at e1
        exact absurd e1.symm (nN_ne1 (by omega))
    rw [e4, e6]
    exact .inl ⟨j, t1, t1', hj, e3, rfl, e5, rfl, e7, e8, e9⟩
  · rw [e1, e2]
    exact .inr ⟨F, t1, t1', rfl, rfl, e3⟩
/-- what a year being read may change -/
def YC (q : Nat) (t t1 : tS) : Prop := (∀ b j, b ≠ 1 → b ≠ q → t1.1 b j = t.1 b j) ∧ (∀ b i, ¬ (q + 1 ≤ b ∧ b ≤ q + 3) → t1.2.1 b i = t.2.1 b i) ∧ t1.2.2.1 = t.2.2.1 ∧ t1.2.2.2.2 = t.2.2.2.2
def YM (t t1 : tS) : Prop := (∀ b j, ¬ (b = 218 ∧ (j = 7 ∨ j = 8)) → t1.1 b j = t.1 b j) ∧ (∀ b i, ¬ (b = 231 ∧ 125 ≤ i) → t1.2.1 b i = t.2.1 b i) ∧ t1.2.2 = t.2.2
theorem YC.rf {q : Nat} : YC q t t := ⟨fun _ _ _ _ => rfl, fun _ _ _ => rfl, rfl, rfl⟩
theorem YC.tr {q : Nat} {t1 t2 : tS} (h : YC q t t1) (g : YC q t1 t2) : YC q t t2 := ⟨fun b j h1 h2 => (g.1 b j h1 h2).trans (h.1 b j h1 h2), fun b i h1 => (g.2.1 b i h1).trans (h.2.1 b i h1), g.2.2.1.trans h.2.2.1, g.2.2.2.trans h.2.2.2⟩
theorem YM.rf : YM t t := ⟨fun _ _ _ => rfl, fun _ _ _ => rfl, rfl⟩
theorem YM.tr {t1 t2 : tS} (h : YM t t1) (g : YM t1 t2) : YM t t2 := ⟨fun b j h1 => (g.1 b j h1).trans (h.1 b j h1), fun b i h1 => (g.2.1 b i h1).trans (h.2.1 b i h1), g.2.2.trans h.2.2⟩
theorem CO1.yc {q : Nat} {t1 : tS} (h : CO1 t t1) : YC q t t1 := ⟨fun b j h1 _ => h.1 b j h1, fun b i _ => by rw [h.2.1], h.2.2.1, h.2.2.2.2⟩
theorem RO1.ym {t1 : tS} (h : RO1 t t1) : YM t t1 := ⟨fun b j h1 => h.1 b j h1, fun b i _ => by rw [h.2], by rw [h.2]⟩
theorem YM.wA {i : Nat} {x : Int32} (hi : 125 ≤ i) : YM t (uA t 231 i x) := ⟨fun _ _ _ => rfl, fun b j h1 => uA_o (by omega), rfl⟩
theorem PC.mA (h : PC c L M so pl bh k t t') {i : Nat} {x : Int32} : PC c L M so pl bh k t (uA t' 231 i x) := h.ag (fun _ _ => rfl) (fun _ => rfl) rfl rfl rfl (fun _ => uA_o (by omega)) (fun _ => uA_o (by omega)) (fun _ => rfl) (fun _ => rfl)
theorem add3_e {q n : Nat} {x y z : Int32} (hn : n < 40) (h : t.1 q 3 = nI n) : tX3_add q x y z t = some (uI (uA (uA (uA t (q + 1) n x) (q + 2) n y) (q + 3) n z) q 3 (nI (n + 1))) := by
  have w1 : (uA t (q + 1) n x).1 q 3 = nI n := h
  have w2 : (uA (uA t (q + 1) n x) (q + 2) n y).1 q 3 = nI n := h
  have w3 : (uA (uA (uA t (q + 1) n x) (q + 2) n y) (q + 3) n z).1 q 3 = nI n := h
  have c1 : ¬ 40 ≤ n := by omega
  unfold tX3_add
  simp (disch := omega) only [tA_e, tA_l, tW0_e, tW0_l, nN_al, nN_la, nN_ad, nN_lm, nN_ml, nN_le, nN_lt, nN_eq, nN_lel, nN_lle, nN_ltl, nN_llt, nN_eql, nN_rm, nN_dv, ob_s, ob_2, ob_3, ite_true, ite_false, not_true_eq_false, not_false_eq_true, ite_self, eq_self, Nat.add_zero, h, c1, w1, w2, w3]
theorem YC.wL {q n : Nat} {x y z : Int32} : YC q t (uI (uA (uA (uA t (q + 1) n x) (q + 2) n y) (q + 3) n z) q 3 (nI (n + 1))) := by
  refine ⟨fun b j h1 h2 => uI_o (by omega), fun b i h1 => ?_, rfl, rfl⟩
  show (uA (uA (uA t (q + 1) n x) (q + 2) n y) (q + 3) n z).2.1 b i = _
  rw [uA_o (by omega), uA_o (by omega), uA_o (by omega)]
/-- a year being read: n lines -/
def YST (c : Nat → Nat) (L M : Nat) (so pl bh : Nat → Nat) (nh nd q k n : Nat) (t t' : tS) : Prop := PC c L M so pl bh k t t' ∧ n ≤ 40 ∧ t.1 q 3 = nI n ∧ ∀ i, i < n → LN nh nd (t.2.1 (q + 1) i) (t.2.1 (q + 2) i) (t.2.1 (q + 3) i) (t'.2.1 231 (125 + 3 * i)) (t'.2.1 231 (125 + 3 * i + 1)) (t'.2.1 231 (125 + 3 * i + 2))
/-- the end of a line -/
theorem yfin {q n k1 : Nat} {T T' : tS} {x y z a1 a2 a3 : Int32} (hT : TK c L M so pl bh) (hq : q = 210 ∨ q = 214) (hn : n < 40) (h : YST c L M so pl bh nh nd q k n t t') (hp : PC c L M so pl bh k1 T T') (hyc : YC q t T) (hc : CO1 t T) (hym : YM t' T') (hr : ∀ i, i < 125 + 3 * n → T'.2.1 231 i = t'.2.1 231 i) (r1 : T'.2.1 231 (125 + 3 * n) = a1) (r2 : T'.2.1 231 (125 + 3 * n + 1) = a2) (r3 : T'.2.1 231 (125 + 3 * n + 2) = a3) (hl : LN nh nd x y z a1 a2 a3) : (∃ t1 t1', ((tX3_add q x y z T).bind fun tt => am_b2 (tX7_passSign 59 tt) fun x30 tt32 => (am_z01 x30).bind fun b34 => some (b34, tt32)) = some (1, t1) ∧ tX10_takeSign 59 T' = some t1' ∧ YST c L M so pl bh nh nd q (k1 + 1) (n + 1) t1 t1' ∧ YC q t t1 ∧ YM t' t1') ∨ (∃ F t1 t1', ((tX3_add q x y z T).bind fun tt => am_b2 (tX7_passSign 59 tt) fun x30 tt32 => (am_z01 x30).bind fun b34 => some (b34, tt32)) = some (0, t1) ∧ tX10_takeSign 59 T' = some t1' ∧ 0 < F ∧ F < 100000 ∧ t1.1 1 7 = nI F ∧ t1'.1 218 8 = nI F ∧ YC q t t1 ∧ YM t' t1') := by
  obtain ⟨h1, h2, h3, h4⟩ := h
  have q3 : T.1 q 3 = nI n := (hc.1 _ _ (by omega)).trans h3
  rw [add3_e hn q3]
  simp only [ob_s]
  have hp2 : PC c L M so pl bh k1 (uI (uA (uA (uA T (q + 1) n x) (q + 2) n y) (q + 3) n z) q 3 (nI (n + 1))) T' := hp.ag (fun j _ => uI_o (by omega)) (fun i => by
    show (uA (uA (uA T (q + 1) n x) (q + 2) n y) (q + 3) n z).2.1 2 i = _
    rw [uA_o (by omega), uA_o (by omega), uA_o (by omega)]) rfl rfl rfl (fun _ => rfl) (fun _ => rfl) (fun _ => rfl) (fun _ => rfl)
  rcases hp2.pSign hT (x := 59) (by omega) with ⟨t1, t1', e1, e2, e3, e4, e5, _⟩ | ⟨F, t1, t1', e1, e2, e3⟩
  · have e1' : tX7_passSign 59 _ = some (1, t1) := e1
    have e2' : tX10_takeSign 59 T' = some t1' := e2
    rw [e1', e2']
    refine .inl ⟨t1, t1', rfl, rfl, ⟨e3, by omega, ?_, fun i hi => ?_⟩, (hyc.tr YC.wL).tr e4.yc, hym.tr e5.ym⟩
    · rw [e4.1 _ _ (by omega), uI_s]
    · rw [e4.2.1, e5.2]
      show LN nh nd ((uA (uA (uA T (q + 1) n x) (q + 2) n y) (q + 3) n z).2.1 (q + 1) i) ((uA (uA (uA T (q + 1) n x) (q + 2) n y) (q + 3) n z).2.1 (q + 2) i) ((uA (uA (uA T (q + 1) n x) (q + 2) n y) (q + 3) n z).2.1 (q + 3) i) _ _ _
      by_cases e : i = n
      · subst e
        rw [uA_o (by omega), uA_o (by omega), uA_s, uA_o (by omega), uA_s, uA_s, r1, r2, r3]
        exact hl
      · rw [uA_o (by omega), uA_o (by omega), uA_o (by omega), uA_o (by omega), uA_o (by omega), uA_o (by omega), uA_o (by omega), uA_o (by omega), uA_o (by omega), hr _ (by omega), hr _ (by omega), hr _ (by omega), hc.2.1]
        exact h4 i (by omega)
  · have e1' : tX7_passSign 59 _ = some (0, t1) := e1
    have e2' : tX10_takeSign 59 T' = some t1' := e2
    rw [e1', e2']
    obtain ⟨g1, g2, g3, g4, g5, g6⟩ := e3
    exact .inr ⟨F, t1, t1', rfl, rfl, g1, g2, g3, g4, (hyc.tr YC.wL).tr g5.yc, hym.tr g6.ym⟩
end
