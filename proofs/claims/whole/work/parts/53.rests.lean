/-! ===== PURE: rests ===== -/
section
variable {v nh nd st a b n m : Nat} {V : Nat → Nat → Nat} {S : Nat → Nat → Int32} {t0 t0' t t' : tS}
theorem gets_e {x y a2 a3 a4 : Int32} : tX10_getsBy x y a2 a3 a4 t = some (am_gain x y a2 a3 a4) := by
  unfold tX10_getsBy am_gain
  by_cases c1 : x = 1
  · by_cases c2 : y = 1
    · simp only [tA_e, tA_l, tW0_e, tW0_l, nN_al, nN_la, nN_ad, nN_lm, nN_ml, nN_le, nN_lt, nN_eq, nN_lel, nN_lle, nN_ltl, nN_llt, nN_eql, nN_rm, nN_dv, ob_s, ob_2, ob_3, ite_true, ite_false, not_true_eq_false, not_false_eq_true, ite_self, eq_self, Nat.add_zero, eq_true c1, eq_true c2]
    · simp only [tA_e, tA_l, tW0_e, tW0_l, nN_al, nN_la, nN_ad, nN_lm, nN_ml, nN_le, nN_lt, nN_eq, nN_lel, nN_lle, nN_ltl, nN_llt, nN_eql, nN_rm, nN_dv, ob_s, ob_2, ob_3, ite_true, ite_false, not_true_eq_false, not_false_eq_true, ite_self, eq_self, Nat.add_zero, eq_true c1, c2]
  · by_cases c2 : y = 1
    · simp only [tA_e, tA_l, tW0_e, tW0_l, nN_al, nN_la, nN_ad, nN_lm, nN_ml, nN_le, nN_lt, nN_eq, nN_lel, nN_lle, nN_ltl, nN_llt, nN_eql, nN_rm, nN_dv, ob_s, ob_2, ob_3, ite_true, ite_false, not_true_eq_false, not_false_eq_true, ite_self, eq_self, Nat.add_zero, c1, eq_true c2]
    · simp only [tA_e, tA_l, tW0_e, tW0_l, nN_al, nN_la, nN_ad, nN_lm, nN_ml, nN_le, nN_lt, nN_eq, nN_lel, nN_lle, nN_ltl, nN_llt, nN_eql, nN_rm, nN_dv, ob_s, ob_2, ob_3, ite_true, ite_false, not_true_eq_false, not_false_eq_true, ite_self, eq_self, Nat.add_zero, c1, c2]
theorem rests_1 {f : Nat} {a1 a2 a3 a4 x y k p q : Int32} (e1 : am_dv k 2 = some p) (e2 : am_rm' k 2 = some q) (e3 : ¬ (4 : Int32) ≤ k) : tX10_rests_L52 (f + 1) a1 a2 a3 a4 1 x y k t = tX10_rests_L52 f a1 a2 a3 a4 1 (x + bI (am_rest1 a1 a2 a3 p q)) (if am_rest1 a1 a2 a3 p q = true ∧ x = a4 then k else y) (k + 1) t := by
  have z : ¬ (1 : Int32) = 0 := by decide
  have lt : ∀ u w : Int32, u < w ↔ ¬ w ≤ u := by
    intro u w
    rw [Int32.lt_iff_toInt_lt, Int32.le_iff_toInt_le]
    omega
  rw [tX10_rests_L52]
  simp only [e1, e2, e3, z, ite_false, ob_s, gets_e, lt]
  unfold am_rest1
  by_cases c1 : am_gain (1 - p) q a1 a2 a3 ≤ am_gain p q a1 a2 a3
  · by_cases c2 : am_gain (1 - q) p a1 a2 a3 ≤ am_gain q p a1 a2 a3
    · by_cases c3 : x = a4
      · simp [c1, c2, c3, bI, ob_s]
      · simp [c1, c2, c3, bI, ob_s]
    · simp [c1, c2, bI, ob_s]
  · simp [c1, bI, ob_s]
def rN (b0 b1 b2 b3 : Bool) : Int32 := 0 + bI b0 + bI b1 + bI b2 + bI b3
def rF (w : Int32) (b0 b1 b2 b3 : Bool) : Int32 := if b3 = true ∧ 0 + bI b0 + bI b1 + bI b2 = w then 3 else if b2 = true ∧ 0 + bI b0 + bI b1 = w then 2 else if b1 = true ∧ 0 + bI b0 = w then 1 else if b0 = true ∧ 0 = w then 0 else -1
def rE (w : Int32) (b : Bool) (k : Int32) (found : Int32) (c : Int32 → Option Int32) : Option Int32 := if b = true then (if found = w then some k else c (found + 1)) else c found
def rL (w : Int32) (b0 b1 b2 b3 : Bool) : Option Int32 := rE w b0 0 0 fun x => rE w b1 1 x fun x => rE w b2 2 x fun x => rE w b3 3 x fun x => if w = -1 then some x else none
theorem rests_4 {f : Nat} {a1 a2 a3 a4 : Int32} : tX10_rests_L52 (f + 1 + 1 + 1 + 1 + 1) a1 a2 a3 a4 1 0 (-1) 0 t = some (rN (am_rest1 a1 a2 a3 0 0) (am_rest1 a1 a2 a3 0 1) (am_rest1 a1 a2 a3 1 0) (am_rest1 a1 a2 a3 1 1), rF a4 (am_rest1 a1 a2 a3 0 0) (am_rest1 a1 a2 a3 0 1) (am_rest1 a1 a2 a3 1 0) (am_rest1 a1 a2 a3 1 1)) := by
  rw [rests_1 (p := 0) (q := 0) (k := 0) (by decide) (by decide) (by decide), show (0 : Int32) + 1 = 1 from by decide, rests_1 (p := 0) (q := 1) (k := 1) (by decide) (by decide) (by decide), show (1 : Int32) + 1 = 2 from by decide, rests_1 (p := 1) (q := 0) (k := 2) (by decide) (by decide) (by decide), show (2 : Int32) + 1 = 3 from by decide, rests_1 (p := 1) (q := 1) (k := 3) (by decide) (by decide) (by decide), show (3 : Int32) + 1 = 4 from by decide, tX10_rests_L52, if_pos (by decide)]
  rfl
theorem rests_5 {a1 a2 a3 a4 : Int32} : tX10_rests_L52 4000 a1 a2 a3 a4 1 0 (-1) 0 t = some (rN (am_rest1 a1 a2 a3 0 0) (am_rest1 a1 a2 a3 0 1) (am_rest1 a1 a2 a3 1 0) (am_rest1 a1 a2 a3 1 1), rF a4 (am_rest1 a1 a2 a3 0 0) (am_rest1 a1 a2 a3 0 1) (am_rest1 a1 a2 a3 1 0) (am_rest1 a1 a2 a3 1 1)) := by
  have h : ∀ F, F = 3995 + 1 + 1 + 1 + 1 + 1 → tX10_rests_L52 F a1 a2 a3 a4 1 0 (-1) 0 t = some (rN (am_rest1 a1 a2 a3 0 0) (am_rest1 a1 a2 a3 0 1) (am_rest1 a1 a2 a3 1 0) (am_rest1 a1 a2 a3 1 1), rF a4 (am_rest1 a1 a2 a3 0 0) (am_rest1 a1 a2 a3 0 1) (am_rest1 a1 a2 a3 1 0) (am_rest1 a1 a2 a3 1 1)) := by
    intro F hF
    rw [hF]
    exact rests_4
  exact h 4000 rfl
theorem rests_n {f : Nat} {a1 a2 a3 a4 : Int32} : tX10_rests_L52 (f + 1) a1 a2 a3 a4 0 0 (-1) 0 t = some (0, -1) := by
  rw [tX10_rests_L52, if_neg (by decide), if_pos rfl]
theorem rL_e {a1 a2 a3 a4 : Int32} : am_restL a1 a2 a3 a4 [(0, 0, 0), (1, 0, 1), (2, 1, 0), (3, 1, 1)] 0 = rL a4 (am_rest1 a1 a2 a3 0 0) (am_rest1 a1 a2 a3 0 1) (am_rest1 a1 a2 a3 1 0) (am_rest1 a1 a2 a3 1 1) := by
  unfold rL rE
  simp only [am_restL]
/-- what is answered -/
def rO (w : Int32) (b0 b1 b2 b3 : Bool) : Option Int32 := if w < -1 then none else if w < 0 then some (rN b0 b1 b2 b3) else if rF w b0 b1 b2 b3 < 0 then none else some (rF w b0 b1 b2 b3)
theorem rO_e (w : Int32) (b0 b1 b2 b3 : Bool) : rL w b0 b1 b2 b3 = rO w b0 b1 b2 b3 := by
  have k0 : ∀ b0 b1 b2 b3 : Bool, rL (-1) b0 b1 b2 b3 = rO (-1) b0 b1 b2 b3 := by decide
  have k1 : ∀ b0 b1 b2 b3 : Bool, rL 0 b0 b1 b2 b3 = rO 0 b0 b1 b2 b3 := by decide
  have k2 : ∀ b0 b1 b2 b3 : Bool, rL 1 b0 b1 b2 b3 = rO 1 b0 b1 b2 b3 := by decide
  have k3 : ∀ b0 b1 b2 b3 : Bool, rL 2 b0 b1 b2 b3 = rO 2 b0 b1 b2 b3 := by decide
  have k4 : ∀ b0 b1 b2 b3 : Bool, rL 3 b0 b1 b2 b3 = rO 3 b0 b1 b2 b3 := by decide
  by_cases c0 : w = -1
  · rw [c0]; exact k0 _ _ _ _
  by_cases c1 : w = 0
  · rw [c1]; exact k1 _ _ _ _
  by_cases c2 : w = 1
  · rw [c2]; exact k2 _ _ _ _
  by_cases c3 : w = 2
  · rw [c3]; exact k3 _ _ _ _
  by_cases c4 : w = 3
  · rw [c4]; exact k4 _ _ _ _
  have s1 : (0 : Int32) + 1 = 1 := by decide
  have s2 : (1 : Int32) + 1 = 2 := by decide
  have s3 : (2 : Int32) + 1 = 3 := by decide
  have s0 : (0 : Int32) + 0 = 0 := by decide
  have s4 : (1 : Int32) + 0 = 1 := by decide
  have s5 : (2 : Int32) + 0 = 2 := by decide
  have m1 : (-1 : Int32) < 0 := by decide
  have e1 : ¬ (0 : Int32) = w := fun z => c1 z.symm
  have e2 : ¬ (1 : Int32) = w := fun z => c2 z.symm
  have e3 : ¬ (2 : Int32) = w := fun z => c3 z.symm
  have e4 : ¬ (3 : Int32) = w := fun z => c4 z.symm
  have h1 : rL w b0 b1 b2 b3 = none := by
    unfold rL rE
    cases b0 <;> cases b1 <;> cases b2 <;> cases b3 <;> simp only [Bool.false_eq_true, if_false, if_true, s1, s2, s3, e1, e2, e3, e4, c0]
  have h2 : rF w b0 b1 b2 b3 = -1 := by
    unfold rF bI
    cases b0 <;> cases b1 <;> cases b2 <;> cases b3 <;> simp only [Bool.false_eq_true, if_false, if_true, s0, s1, s2, s3, s4, s5, e1, e2, e3, e4, false_and, and_false]
  rw [h1]
  unfold rO
  rw [h2]
  by_cases c5 : w < -1
  · rw [if_pos c5]
  · have c6 : ¬ w < 0 := by
      intro z
      rw [Int32.lt_iff_toInt_lt, show (-1 : Int32).toInt = -1 from by decide] at c5
      rw [Int32.lt_iff_toInt_lt, show (0 : Int32).toInt = 0 from by decide] at z
      apply c0
      apply Int32.toInt_inj.1
      rw [show (-1 : Int32).toInt = -1 from by decide]
      omega
    rw [if_neg c5, if_neg c6, if_pos m1]
theorem rests_e (a1 a2 a3 a4 : Int32) (t' : tS) : (∃ r, am_rests a1 a2 a3 a4 = some r ∧ tX10_rests a1 a2 a3 a4 t' = some (r, uI t' 218 0 0)) ∨ (am_rests a1 a2 a3 a4 = none ∧ ∃ x, tX10_rests a1 a2 a3 a4 t' = some (x, uI t' 218 0 1)) := by
  have no : tX10_rests_L52 4000 a1 a2 a3 a4 0 0 (-1) 0 t' = some (0, -1) := rests_n (f := 3999)
  have yes := rests_5 (t := t') (a1 := a1) (a2 := a2) (a3 := a3) (a4 := a4)
  have z10 : ¬ (1 : Int32) ≤ 0 := by decide
  have z00 : (0 : Int32) ≤ 0 := by decide
  have z1 : ¬ (1 : Int32) = 0 := by decide
  unfold tX10_rests am_rests
  generalize tX10_rests_L52 4000 a1 a2 a3 a4 = G at no yes ⊢
  simp only [wi_e.2, ob_s, bI_0]
  have fin : ∀ x : Int32, ∃ y, some (x, uI t' 218 0 1) = some (y, uI t' 218 0 1) := fun x => ⟨x, rfl⟩
  cases h1 : decide ((0 : Int32) ≤ a1 ∧ a1 ≤ 9)
  · have g := of_decide_eq_false h1
    rw [if_neg (fun z => g ⟨z.1, z.2.1⟩)]
    simp only [ite_true, ob_s, no, ob_2, eq_self, uI_s, z10, ite_false]
    exact .inr ⟨trivial, fin _⟩
  · have g1 := of_decide_eq_true h1
    cases h2 : decide ((0 : Int32) ≤ a2 ∧ a2 ≤ 9)
    · have g := of_decide_eq_false h2
      rw [if_neg (fun z => g ⟨z.2.2.1, z.2.2.2.1⟩)]
      simp only [ite_true, ite_false, Bool.true_eq_false, ob_s, no, ob_2, eq_self, uI_s, z10]
      exact .inr ⟨trivial, fin _⟩
    · have g2 := of_decide_eq_true h2
      cases h3 : decide ((0 : Int32) ≤ a3 ∧ a3 ≤ 9)
      · have g := of_decide_eq_false h3
        rw [if_neg (fun z => g ⟨z.2.2.2.2.1, z.2.2.2.2.2⟩)]
        simp only [ite_true, ite_false, Bool.true_eq_false, ob_s, no, ob_2, eq_self, uI_s, z10]
        exact .inr ⟨trivial, fin _⟩
      · have g3 := of_decide_eq_true h3
        rw [if_pos ⟨g1.1, g1.2, g2.1, g2.2, g3.1, g3.2⟩, rL_e, rO_e]
        unfold rO
        by_cases cm : a4 < -1
        · rw [if_pos cm]
          simp only [ite_true, ite_false, Bool.true_eq_false, ob_s, no, ob_2, eq_self, uI_s, z10, eq_true cm]
          exact .inr ⟨trivial, fin _⟩
        · rw [if_neg cm]
          generalize rN (am_rest1 a1 a2 a3 0 0) (am_rest1 a1 a2 a3 0 1) (am_rest1 a1 a2 a3 1 0) (am_rest1 a1 a2 a3 1 1) = x at yes ⊢
          generalize rF a4 (am_rest1 a1 a2 a3 0 0) (am_rest1 a1 a2 a3 0 1) (am_rest1 a1 a2 a3 1 0) (am_rest1 a1 a2 a3 1 1) = y at yes ⊢
          clear no h1 h2 h3 g1 g2 g3
          simp only [Bool.true_eq_false, ite_false, cm, ob_s, yes, ob_2]
          rw [if_neg z1]
          have lt : ∀ u : Int32, u < 0 ↔ ¬ 0 ≤ u := by
            intro u
            rw [Int32.lt_iff_toInt_lt, Int32.le_iff_toInt_le]
            omega
          simp only [lt]
          by_cases c0 : 0 ≤ a4
          · by_cases c1 : 0 ≤ y
            · simp only [eq_true c0, eq_true c1, not_true_eq_false, ite_true, ite_false, ob_s, uI_s, z00]
              exact .inl ⟨_, rfl, rfl⟩
            · simp only [eq_true c0, c1, not_true_eq_false, not_false_eq_true, ite_true, ite_false, ob_s, uI_s, z10]
              exact .inr ⟨trivial, fin _⟩
          · simp only [c0, not_false_eq_true, ite_true, ite_false, ob_s, uI_s, z00]
            exact .inl ⟨_, rfl, rfl⟩
end
