/-! ===== PURE: beds ===== -/
section
variable {v nh nd st a b n m : Nat} {V : Nat → Nat → Nat} {S : Nat → Nat → Int32} {t0 t0' t t' : tS}
/-- a row of beds by its number, the first house the highest digit of three -/
def dgs : Nat → Nat → Nat → Nat
  | 0, _, _ => 0
  | k + 1, y, j => if j = k then y % 3 else dgs k (y / 3) j
def dsm : Nat → Nat → Nat
  | 0, _ => 0
  | k + 1, y => y % 3 + dsm k (y / 3)
theorem dsm_le : ∀ k y, dsm k y ≤ 2 * k := by
  intro k
  induction k with
  | zero => intro _; exact Nat.le_refl _
  | succ k ih =>
    intro y
    unfold dsm
    have := ih (y / 3)
    omega
theorem dgs_lt : ∀ k y j, dgs k y j < 3 := by
  intro k
  induction k with
  | zero => intro _ _; exact (by decide : 0 < 3)
  | succ k ih =>
    intro y j
    unfold dgs
    split
    · exact Nat.mod_lt _ (by decide)
    · exact ih _ _
/-- the digits of the first i houses, together -/
def dss (k y : Nat) : Nat → Nat
  | 0 => 0
  | i + 1 => dss k y i + dgs k y i
theorem dss_s : ∀ k y i, i ≤ k → dss (k + 1) y i = dss k (y / 3) i := by
  intro k y i
  induction i with
  | zero => intro _; rfl
  | succ i ih =>
    intro hi
    unfold dss
    rw [ih (by omega), dgs, if_neg (by omega)]
theorem dss_e : ∀ k y, dss k y k = dsm k y := by
  intro k
  induction k with
  | zero => intro _; rfl
  | succ k ih =>
    intro y
    rw [dss, dss_s k y k (Nat.le_refl _), ih, dgs, if_pos rfl, dsm]
    omega
theorem dss_le {k y : Nat} : ∀ i, dss k y i ≤ 2 * i := by
  intro i
  induction i with
  | zero => exact Nat.le_refl _
  | succ i ih =>
    unfold dss
    have := dgs_lt k y i
    omega
theorem m1_lt : (nI 0 - 1 : Int32) < 0 := by decide
theorem m1_s {k : Nat} (hk : k < 1000) : nI (k + 1) - (1 : Int32) = nI k := by
  rw [show (1 : Int32) = nI 1 from rfl, nN_su (by omega)]
  rfl
theorem m1_p {k : Nat} : nI k + (-1 : Int32) = nI k - 1 := (Int32.sub_eq_add_neg _ _).symm
theorem lrL : ∀ (k f s y : Nat) (T : tS), k ≤ 4 → y < 1000 → k < f → ∃ T1, tX9_layRow_L15 f (nI s) (nI y) (nI k - 1) T = some (nI (s + dsm k y), T1) ∧ T1.1 = T.1 ∧ (∀ c j, ¬ (c = 179 ∧ j < k) → T1.2.1 c j = T.2.1 c j) ∧ T1.2.2 = T.2.2 ∧ ∀ j, j < k → T1.2.1 179 j = nI (dgs k y j) := by
  intro k
  induction k with
  | zero =>
    intro f s y T hk hy hf
    obtain ⟨f, rfl⟩ : ∃ g, f = g + 1 := ⟨f - 1, by omega⟩
    rw [tX9_layRow_L15, if_pos m1_lt]
    exact ⟨_, rfl, rfl, fun _ _ _ => rfl, rfl, fun j hj => by omega⟩
  | succ k ih =>
    intro f s y T hk hy hf
    obtain ⟨f, rfl⟩ : ∃ g, f = g + 1 := ⟨f - 1, by omega⟩
    have z : ¬ nI k < (0 : Int32) := nN_ge0 (by omega)
    have r1 : (uA T 179 k (nI (y % 3))).2.1 179 k = nI (y % 3) := by rw [uA_2, if_pos ⟨rfl, rfl⟩]
    have y3 : y / 3 ≤ y := Nat.div_le_self _ _
    have ym : y % 3 < 3 := Nat.mod_lt _ (by decide)
    obtain ⟨T1, e1, e2, e3, e4, e5⟩ := ih f (s + y % 3) (y / 3) (uA T 179 k (nI (y % 3))) (by omega) (by omega) (by omega)
    rw [tX9_layRow_L15, m1_s (by omega), if_neg z]
    simp (disch := omega) only [tA_e, tA_l, tW0_e, tW0_l, nN_al, nN_la, nN_ad, nN_lm, nN_ml, nN_le, nN_lt, nN_eq, nN_lel, nN_lle, nN_ltl, nN_llt, nN_eql, nN_rm, nN_dv, ob_s, ob_2, ob_3, ite_true, ite_false, not_true_eq_false, not_false_eq_true, ite_self, eq_self, Nat.add_zero, r1, m1_p]
    refine ⟨T1, ?_, e2, ?_, e4, ?_⟩
    · rw [e1, dsm]
      congr 2
      congr 1
      omega
    · intro c j hc
      rw [e3 c j (by omega), uA_2, if_neg (by omega)]
    · intro j hj
      unfold dgs
      by_cases c : j = k
      · subst c
        rw [if_pos rfl, e3 _ _ (by omega), r1]
      · rw [if_neg c]
        exact e5 j (by omega)
theorem biL {h : Nat} : ∀ (k f y : Nat), h < k → k ≤ 4 → y < 1000 → k < f → ∃ y1, tX10_builtIn_L10 f (nI h) (nI y) (nI k - 1) t = some (nI y1) ∧ y1 % 3 = dgs k y h ∧ y1 < 1000 := by
  intro k
  induction k with
  | zero => intro f y hk; omega
  | succ k ih =>
    intro f y hk hk4 hy hf
    obtain ⟨f, rfl⟩ : ∃ g, f = g + 1 := ⟨f - 1, by omega⟩
    rw [tX10_builtIn_L10, m1_s (by omega)]
    by_cases c : h = k
    · subst c
      rw [if_pos (Int32.le_refl _)]
      refine ⟨y, rfl, ?_, hy⟩
      rw [dgs, if_pos rfl]
    · have c1 : ¬ k ≤ h := by omega
      have y3 : y / 3 ≤ y := Nat.div_le_self _ _
      simp (disch := omega) only [tA_e, tA_l, tW0_e, tW0_l, nN_al, nN_la, nN_ad, nN_lm, nN_ml, nN_le, nN_lt, nN_eq, nN_lel, nN_lle, nN_ltl, nN_llt, nN_eql, nN_rm, nN_dv, ob_s, ob_2, ob_3, ite_true, ite_false, not_true_eq_false, not_false_eq_true, ite_self, eq_self, Nat.add_zero, c1, m1_p]
      obtain ⟨y1, e1, e2, e3⟩ := ih f (y / 3) (by omega) (by omega) (by omega) (by omega)
      refine ⟨y1, e1, ?_, e3⟩
      rw [dgs, if_neg c, e2]
theorem MV.builtIn (h : MV nh nd st V t') (h4 : nh ≤ 4) {x j : Nat} (hx : x < 1000) (hj : j < nh) : tX10_builtIn (nI x) (nI j) t' = some (nI (dgs nh x j)) := by
  obtain ⟨y1, e1, e2, e3⟩ := biL (t := t') (h := j) nh 4000 x hj h4 hx (by omega)
  unfold tX10_builtIn
  rw [h.houses, ob_s, e1, ob_s, show (3 : Int32) = nI 3 from rfl]
  have := nN_rm (a := y1) (k := 3) (by omega) (by decide) (by decide)
  rw [show (3 : Int32) = nI 3 from rfl] at this
  rw [this, ob_s]
  exact congrArg (fun z => some (nI z)) e2
/-- the beds that are now -/
def zbd (t : tS) (j : Nat) : Nat := (t.2.1 4 j).toInt.toNat
/-- whether a row may be built -/
def mb (t : tS) (nh x : Nat) : Nat → Bool
  | 0 => true
  | i + 1 => mb t nh x i && decide (zbd t i + dgs nh x i ≤ 9)
theorem mb_f {x : Nat} : ∀ k i, i ≤ k → mb t nh x i = false → mb t nh x k = false := by
  intro k i hi h
  induction k with
  | zero =>
    obtain rfl : i = 0 := by omega
    exact h
  | succ k ih =>
    by_cases c : i = k + 1
    · rw [← c]; exact h
    · unfold mb
      rw [ih (by omega)]
      rfl
theorem GP.zbe {w p q N : Nat} (h : GP v w p q nh nd st V N t t') {j : Nat} (hj : j < nh) : t.2.1 4 j = nI (zbd t j) ∧ zbd t j < 10 := by
  obtain ⟨n, m, S, s1, s2, s3, s4, s5, s6, s7⟩ := h.2.2.2.2.1
  obtain ⟨z, z1, z2⟩ := s4 j hj
  have e : t.2.1 4 j = nI z := (s1.2.2.2.1 j hj).trans z2
  have e2 : zbd t j = z := by
    unfold zbd
    rw [e, nN_toInt (by omega)]
    rfl
  rw [e2]
  exact ⟨e, z1⟩
/-- the row of a number lies there -/
def RW9 (nh x : Nat) (T : tS) : Prop := ∀ j, j < nh → T.2.1 179 j = nI (dgs nh x j)
/-- one row in both: the beds are added, one by one -/
theorem PQ.buL {w p q N x : Nat} (hg : GP v w p q nh nd st V N t0 t0') {A : tS} (hx : x < 1000) {a1 a2 a3 a4 a5 : Int32} (hz : ∀ j, j < nh → A.2.1 4 j = t0.2.1 4 j) : ∀ (k i f f' : Nat) (S : Nat → Nat → Int32) (T T' B B' : tS), PQ v nh nd st V n m S B B' T T' → RW9 nh x T → (∀ j, i ≤ j → j < nh → S 1 j = nI (zbd t0 j)) → mb t0 nh x i = true → i + k = nh → k < f → k < f' → ∃ S1 T1 T1', tX9_buildRow_L13 f (nI i) T = some (if mb t0 nh x nh = true then .inl T1 else .inr (0, T1)) ∧ tX10_beds_L83 f' a1 a2 a3 a4 a5 (nI x) (nI (dss nh x i)) 1 (nI i) T' = some (nI (dsm nh x), bI (mb t0 nh x nh), T1') ∧ CF 10 v B T1 ∧ MF 987 B' T1' ∧ (mb t0 nh x nh = true → PQ v nh nd st V n m S1 B B' T1 T1' ∧ RW9 nh x T1) := by
  have h4 := hg.h4
  intro k
  induction k with
  | zero =>
    intro i f f' S T T' B B' h hr hs hm hi hf hf'
    obtain ⟨f, rfl⟩ : ∃ g, f = g + 1 := ⟨f - 1, by omega⟩
    obtain ⟨f', rfl⟩ : ∃ g, f' = g + 1 := ⟨f' - 1, by omega⟩
    obtain rfl : i = nh := by omega
    rw [tX9_buildRow_L13, tX10_beds_L83]
    simp (disch := omega) only [tA_e, tA_l, tW0_e, tW0_l, nN_al, nN_la, nN_ad, nN_lm, nN_ml, nN_le, nN_lt, nN_eq, nN_lel, nN_lle, nN_ltl, nN_llt, nN_eql, nN_rm, nN_dv, ob_s, ob_2, ob_3, ite_true, ite_false, not_true_eq_false, not_false_eq_true, ite_self, eq_self, Nat.add_zero, h.rv, h.1.ch, h.1.houses, Nat.le_refl]
    refine ⟨S, T, T', by rw [if_pos hm], ?_, h.fr.1, h.fr.2, fun _ => ⟨h, hr⟩⟩
    rw [dss_e, hm]
    rfl
  | succ k ih =>
    intro i f f' S T T' B B' h hr hs hm hi hf hf'
    have hvv := h.1.2.1
    obtain ⟨f, rfl⟩ : ∃ g, f = g + 1 := ⟨f - 1, by omega⟩
    obtain ⟨f', rfl⟩ : ∃ g, f' = g + 1 := ⟨f' - 1, by omega⟩
    have c1 : ¬ nh ≤ i := by omega
    have hj : i < nh := by omega
    have z1 := hg.zbe hj
    have dl := dgs_lt nh x i
    have e1 : T.2.1 11 i = nI (zbd t0 i) := (h.c1 hj).trans (hs i (Nat.le_refl _) hj)
    have e2 : T'.2.1 234 (989 + i) = nI (zbd t0 i) := (h.m1 hj).trans (hs i (Nat.le_refl _) hj)
    have e3 : T.2.1 179 i = nI (dgs nh x i) := hr i hj
    have e4 := h.1.2.2.2.1.builtIn h4 hx hj
    have w1 := h.w1 (x := nI (zbd t0 i + dgs nh x i)) hj
    have e5 : (uA T 11 i (nI (zbd t0 i + dgs nh x i))).2.1 11 i = nI (zbd t0 i + dgs nh x i) := by rw [uA_2, if_pos ⟨rfl, rfl⟩]
    have e6 : (uA T' 234 (989 + i) (nI (zbd t0 i + dgs nh x i))).2.1 234 (989 + i) = nI (zbd t0 i + dgs nh x i) := by rw [uA_2, if_pos ⟨rfl, rfl⟩]
    have hr2 : RW9 nh x (uA T 11 i (nI (zbd t0 i + dgs nh x i))) := by
      intro j hj
      rw [uA_2, if_neg (by omega)]
      exact hr j hj
    have hs2 : ∀ j, i + 1 ≤ j → j < nh → up2 S 1 i (nI (zbd t0 i + dgs nh x i)) 1 j = nI (zbd t0 j) := by
      intro j h1 h2
      rw [up2_d (by omega)]
      exact hs j (by omega) h2
    have z9 : ¬ (1 : Int32) = 0 := by decide
    have ds : dss nh x (i + 1) = dss nh x i + dgs nh x i := rfl
    rw [tX9_buildRow_L13, tX10_beds_L83]
    simp (disch := omega) only [tA_e, tA_l, tW0_e, tW0_l, nN_al, nN_la, nN_ad, nN_lm, nN_ml, nN_le, nN_lt, nN_eq, nN_lel, nN_lle, nN_ltl, nN_llt, nN_eql, nN_rm, nN_dv, ob_s, ob_2, ob_3, ite_true, ite_false, not_true_eq_false, not_false_eq_true, ite_self, eq_self, Nat.add_zero, h.rv, h.1.ch, h.1.houses, c1, e1, e2, e3, e4, e5, e6, z9]
    rw [← ds]
    by_cases c : zbd t0 i + dgs nh x i ≤ 9
    · have c2 : ¬ 9 < zbd t0 i + dgs nh x i := by omega
      have hm2 : mb t0 nh x (i + 1) = true := by
        unfold mb
        rw [hm, decide_eq_true c]
        rfl
      simp only [tA_e, tA_l, tW0_e, tW0_l, nN_al, nN_la, nN_ad, nN_lm, nN_ml, nN_le, nN_lt, nN_eq, nN_lel, nN_lle, nN_ltl, nN_llt, nN_eql, nN_rm, nN_dv, ob_s, ob_2, ob_3, ite_true, ite_false, not_true_eq_false, not_false_eq_true, ite_self, eq_self, Nat.add_zero, eq_true c, c2]
      exact ih (i + 1) f f' _ _ _ _ _ w1 hr2 hs2 hm2 (by omega) (by omega) (by omega)
    · have c2 : 9 < zbd t0 i + dgs nh x i := by omega
      have hm2 : mb t0 nh x (i + 1) = false := by
        unfold mb
        rw [hm, decide_eq_false c]
        rfl
      have hm3 := mb_f nh (i + 1) (by omega) hm2
      have key : ∀ (k i f' : Nat) (S : Nat → Nat → Int32) (T T' : tS), PQ v nh nd st V n m S B B' T T' → (∀ j, i ≤ j → j < nh → S 1 j = nI (zbd t0 j)) → i + k = nh → k < f' → ∃ T1', tX10_beds_L83 f' a1 a2 a3 a4 a5 (nI x) (nI (dss nh x i)) 0 (nI i) T' = some (nI (dsm nh x), 0, T1') ∧ MF 987 B' T1' := by
        intro k
        induction k with
        | zero =>
          intro i f' S T T' h hs hi hf'
          obtain ⟨f', rfl⟩ : ∃ g, f' = g + 1 := ⟨f' - 1, by omega⟩
          obtain rfl : i = nh := by omega
          rw [tX10_beds_L83]
          simp (disch := omega) only [tA_e, tA_l, tW0_e, tW0_l, nN_al, nN_la, nN_ad, nN_lm, nN_ml, nN_le, nN_lt, nN_eq, nN_lel, nN_lle, nN_ltl, nN_llt, nN_eql, nN_rm, nN_dv, ob_s, ob_2, ob_3, ite_true, ite_false, not_true_eq_false, not_false_eq_true, ite_self, eq_self, Nat.add_zero, h.1.houses, Nat.le_refl]
          rw [dss_e]
          exact ⟨_, rfl, h.fr.2⟩
        | succ k ih =>
          intro i f' S T T' h hs hi hf'
          obtain ⟨f', rfl⟩ : ∃ g, f' = g + 1 := ⟨f' - 1, by omega⟩
          have c1 : ¬ nh ≤ i := by omega
          have hj : i < nh := by omega
          have z1 := hg.zbe hj
          have dl := dgs_lt nh x i
          have e2 : T'.2.1 234 (989 + i) = nI (zbd t0 i) := (h.m1 hj).trans (hs i (Nat.le_refl _) hj)
          have e4 := h.1.2.2.2.1.builtIn h4 hx hj
          have w1 := h.w1 (x := nI (zbd t0 i + dgs nh x i)) hj
          have hs2 : ∀ j, i + 1 ≤ j → j < nh → up2 S 1 i (nI (zbd t0 i + dgs nh x i)) 1 j = nI (zbd t0 j) := by
            intro j h1 h2
            rw [up2_d (by omega)]
            exact hs j (by omega) h2
          have ds : dss nh x (i + 1) = dss nh x i + dgs nh x i := rfl
          rw [tX10_beds_L83]
          simp (disch := omega) only [tA_e, tA_l, tW0_e, tW0_l, nN_al, nN_la, nN_ad, nN_lm, nN_ml, nN_le, nN_lt, nN_eq, nN_lel, nN_lle, nN_ltl, nN_llt, nN_eql, nN_rm, nN_dv, ob_s, ob_2, ob_3, ite_true, ite_false, not_true_eq_false, not_false_eq_true, ite_self, eq_self, Nat.add_zero, h.1.houses, c1, e2, e4]
          rw [← ds]
          exact ih (i + 1) f' _ _ _ w1 hs2 (by omega) (by omega)
      obtain ⟨T1', k1, k2⟩ := key k (i + 1) f' _ _ _ w1 hs2 (by omega) (by omega)
      simp only [tA_e, tA_l, tW0_e, tW0_l, nN_al, nN_la, nN_ad, nN_lm, nN_ml, nN_le, nN_lt, nN_eq, nN_lel, nN_lle, nN_ltl, nN_llt, nN_eql, nN_rm, nN_dv, ob_s, ob_2, ob_3, ite_true, ite_false, not_true_eq_false, not_false_eq_true, ite_self, eq_self, Nat.add_zero, c, eq_true c2]
      refine ⟨S, _, T1', ?_, ?_, w1.fr.1, k2, ?_⟩
      · rw [hm3]
        rfl
      · rw [k1, hm3]
        rfl
      · intro z
        rw [hm3] at z
        cases z
/-- what the class, and what the reference says of a row -/
def RC (t : tS) (nh K x : Nat) (T : tS) (c : Bool) : Prop := ∃ T1 T2 T3, tX9_layRow (nI x) T = some (nI (dsm nh x), T1) ∧ tX9_buildRow T1 = some (bI (mb t nh x nh), T2) ∧ YQ t T1 ∧ YQ t T2 ∧ (mb t nh x nh = true → tX9_noneTurnedOff (nI K) T2 = some (bI c, T3) ∧ YQ t T3 ∧ RW9 nh x T3)
def RM (t t' : tS) (nh K x : Nat) (T' : tS) (c : Bool) : Prop := ∀ a2 a3 a4 a5 : Int32, ∃ T1' T2' T3', tX10_triesNow T' = some T1' ∧ tX10_beds_L83 4000 (nI K) a2 a3 a4 a5 (nI x) 0 1 0 T1' = some (nI (dsm nh x), bI (mb t nh x nh), T2') ∧ ZQ t' T2' ∧ (mb t nh x nh = true → tX10_isCalm (nI K) T2' = some (bI c, T3') ∧ ZQ t' T3')
theorem bed1 {w p q N K x : Nat} (h : GP v w p q nh nd st V N t t') (hK : K < 100) (hx : x < 1000) {T T' : tS} (hy : YQ t T) (hz : ZQ t' T') : ∃ c, RC t nh K x T c ∧ RM t t' nh K x T' c := by
  have h4 := h.h4
  have hv := h.qr.1
  have hvv := h.1
  obtain ⟨T1, a1, a2, a3, a4, a5⟩ := lrL nh 4000 0 x T h4 hx (by omega)
  rw [Nat.zero_add, show nI 0 = (0 : Int32) from rfl] at a1
  have hy1 : YQ t T1 := hy.tr ⟨fun b k _ => by rw [a2], fun b i _ _ _ h4 => a3 _ _ (by omega), by rw [a4], by rw [a4]⟩
  have h1 := h.q hy1 hz
  obtain ⟨n, m, S, U, U', b1, b2, b3, b4, b5, b6, b7, b8, b9⟩ := h1.qr.try0
  have l1 : tX9_layRow (nI x) T = some (nI (dsm nh x), T1) := by
    have rv : T.2.2.2.2 0 9 = v := (h.q hy hz).2.2.1.1
    have ch : T.1 v 11 = nI nh := (h.q hy hz).2.2.2.1.2.2.1.1
    unfold tX9_layRow
    rw [rv, ch, a1]
    rfl
  have hrU : RW9 nh x U := by
    intro j hj
    rw [b3.fr.1.2.1 _ _ (by omega) (by omega)]
    exact a5 j hj
  have hsU : ∀ j, 0 ≤ j → j < nh → S 1 j = nI (zbd t j) := by
    intro j _ hj
    rw [← b8.2.2.2.1 j hj]
    show T1.2.1 4 j = _
    rw [hy1.2.1 _ _ (by omega) (by omega) (by omega) (by omega)]
    exact (h.zbe hj).1
  have hall : ∀ a2 a3 a4 a5 : Int32, ∃ S1 T2 T2', tX9_buildRow_L13 4000 (nI 0) U = some (if mb t nh x nh = true then .inl T2 else .inr (0, T2)) ∧ tX10_beds_L83 4000 (nI K) a2 a3 a4 a5 (nI x) (nI (dss nh x 0)) 1 (nI 0) U' = some (nI (dsm nh x), bI (mb t nh x nh), T2') ∧ CF 10 v T1 T2 ∧ MF 987 T' T2' ∧ (mb t nh x nh = true → PQ v nh nd st V n m S1 T1 T' T2 T2' ∧ RW9 nh x T2) := fun a2 a3 a4 a5 => PQ.buL (n := n) (m := m) h (A := T1) hx (fun j hj => hy1.2.1 _ _ (by omega) (by omega) (by omega) (by omega)) nh 0 4000 4000 S U U' T1 T' b3 hrU hsU rfl (by omega) (by omega) (by omega)
  obtain ⟨S1, T2, T2', e1, e2, e3, e4, e5⟩ := hall 0 0 0 0
  have e1' : tX9_buildRow_L13 4000 0 U = some (if mb t nh x nh = true then .inl T2 else .inr (0, T2)) := e1
  have l2 : tX9_buildRow T1 = some (bI (mb t nh x nh), T2) := by
    unfold tX9_buildRow
    rw [b1, ob_s, e1']
    cases mb t nh x nh <;> rfl
  have same : ∀ a2 a3 a4 a5 : Int32, tX10_beds_L83 4000 (nI K) a2 a3 a4 a5 (nI x) 0 1 0 U' = some (nI (dsm nh x), bI (mb t nh x nh), T2') := by
    intro a2 a3 a4 a5
    have hind : ∀ (f : Nat) (s y z : Int32) (X : tS) (b2 b3 b4 b5 c2 c3 c4 c5 : Int32), tX10_beds_L83 f (nI K) b2 b3 b4 b5 s y z (nI 0 + 0) X = tX10_beds_L83 f (nI K) c2 c3 c4 c5 s y z (nI 0 + 0) X ∧ ∀ i : Int32, tX10_beds_L83 f (nI K) b2 b3 b4 b5 s y z i X = tX10_beds_L83 f (nI K) c2 c3 c4 c5 s y z i X := by
      intro f
      induction f with
      | zero => intros; exact ⟨rfl, fun _ => rfl⟩
      | succ f ih =>
        intro s y z X b2 b3 b4 b5 c2 c3 c4 c5
        have : ∀ i : Int32, tX10_beds_L83 (f + 1) (nI K) b2 b3 b4 b5 s y z i X = tX10_beds_L83 (f + 1) (nI K) c2 c3 c4 c5 s y z i X := by
          intro i
          rw [tX10_beds_L83, tX10_beds_L83]
          simp only [(ih _ _ _ _ b2 b3 b4 b5 c2 c3 c4 c5).2]
        exact ⟨this _, this⟩
    rw [(hind 4000 _ _ _ _ a2 a3 a4 a5 0 0 0 0).2]
    exact e2
  have hyT2 : YQ t T2 := hy1.tr (e3.yq hv)
  have hzT2 : ZQ t' T2' := hz.tr (e4.zq (by decide))
  cases hm : mb t nh x nh
  · refine ⟨false, ⟨T1, T2, T2, l1, l2, hy1, hyT2, ?_⟩, fun a2 a3 a4 a5 => ⟨U', T2', T2', b2, same a2 a3 a4 a5, hzT2, ?_⟩⟩
    · intro z
      rw [hm] at z
      cases z
    · intro z
      rw [hm] at z
      cases z
  · obtain ⟨g1, g2⟩ := e5 hm
    obtain ⟨c, T3, T3', k1, k2, k3, k4⟩ := g1.calm (K := K) (by omega) (by omega) (by omega)
    have r3 : RW9 nh x T3 := by
      intro j hj
      rw [k3.2.1 _ _ (by omega) (by omega)]
      exact a5 j hj
    exact ⟨c, ⟨T1, T2, T3, l1, l2, hy1, hyT2, fun _ => ⟨k1, hy1.tr (k3.yq hv), r3⟩⟩, fun a2 a3 a4 a5 => ⟨U', T2', T3', b2, same a2 a3 a4 a5, hzT2, fun _ => ⟨k2, hz.tr (k4.zq (by decide))⟩⟩⟩
end
