/-! ===== PURE: the law of fading ===== -/
section
variable {v nh nd st a b n m : Nat} {V : Nat → Nat → Nat} {S : Nat → Nat → Int32} {t0 t0' t t' : tS}
theorem nN_of (k : Nat) : Int32.ofNat k = nI k := rfl
theorem nN_m1 {p : Nat} (h : 1 ≤ p) : nI p + (-1 : Int32) = nI (p - 1) := by
  have : nI p = nI (p - 1) + nI 1 := by rw [nN_ad]; congr 1; omega
  rw [this, Int32.add_assoc, show nI 1 + (-1 : Int32) = 0 from by decide, Int32.add_zero]
theorem nN_ng {k : Nat} {x : Int32} (hk : k < 2147483648) (hx : x.toInt < 0) : nI k ≠ x := by
  intro h
  have := congrArg Int32.toInt h
  rw [nN_toInt hk] at this
  omega
theorem nN_gn {k : Nat} {x : Int32} (hk : k < 2147483648) (hx : x.toInt < 0) : x ≤ nI k := by
  rw [Int32.le_iff_toInt_le, nN_toInt hk]
  omega
theorem law_jb {c o : Int32} (h : (c = -6 ∧ o = 9) ∨ (c = -7 ∧ o = 10) ∨ (c = -8 ∧ o = 7) ∨ (c = -9 ∧ o = 8) ∨ (c = -10 ∧ o = 4) ∨ (c = -11 ∧ o = 5) ∨ (c = -12 ∧ o = 6)) (x y : Int32) (t t' : tS) : ∃ r, tX1_joined c x y t = some r ∧ tX10_both o x y t' = some r := by
  rcases h with ⟨rfl, rfl⟩ | ⟨rfl, rfl⟩ | ⟨rfl, rfl⟩ | ⟨rfl, rfl⟩ | ⟨rfl, rfl⟩ | ⟨rfl, rfl⟩ | ⟨rfl, rfl⟩
  · show ∃ r, (Option.bind (if x = 0 then some (0 : Int32) else if y = 0 then some 0 else some 1) fun j => some j) = some r ∧ (Option.bind (if x = 0 then some (0 : Int32) else if y = 0 then some 0 else some 1) fun j => some j) = some r
    by_cases h1 : x = 0 <;> by_cases h2 : y = 0 <;> simp [h1, h2]
  · show ∃ r, (Option.bind (if ¬ x = 0 then some (1 : Int32) else if y = 0 then some 0 else some 1) fun j => some j) = some r ∧ (Option.bind (if ¬ x = 0 then some (1 : Int32) else if y = 0 then some 0 else some 1) fun j => some j) = some r
    by_cases h1 : x = 0 <;> by_cases h2 : y = 0 <;> simp [h1, h2]
  · show ∃ r, (Option.bind (if y ≤ x then some (0 : Int32) else some 1) fun j => some j) = some r ∧ (Option.bind (if y ≤ x then some (0 : Int32) else some 1) fun j => some j) = some r
    by_cases h1 : y ≤ x <;> simp [h1]
  · show ∃ r, (Option.bind (if ¬ x = y then some (0 : Int32) else some 1) fun j => some j) = some r ∧ (Option.bind (if ¬ x = y then some (0 : Int32) else some 1) fun j => some j) = some r
    by_cases h1 : x = y <;> simp [h1]
  · exact ⟨_, rfl, rfl⟩
  · exact ⟨_, rfl, rfl⟩
  · exact ⟨_, rfl, rfl⟩
theorem law_5 {q : Nat} (h : q < 4) : ¬ (- nI (1 + q)) = (-5 : Int32) := by
  have : ∀ q < 4, ¬ (- nI (1 + q)) = (-5 : Int32) := by decide
  exact this q h
theorem law_6 {q : Nat} (h : q < 4) : (-5 : Int32) ≤ - nI (1 + q) := by
  have : ∀ q < 4, (-5 : Int32) ≤ - nI (1 + q) := by decide
  exact this q h
theorem law_8 {q : Nat} (h : q < 4) {F : Nat → Int32} : (if ¬ - nI (1 + q) = -1 then if ¬ - nI (1 + q) = -2 then if ¬ - nI (1 + q) = -3 then if ¬ - nI (1 + q) = -4 then some (- nI (1 + q)) else some (F 3) else some (F 2) else some (F 1) else some (F 0)) = some (F q) := by
  have d : ∀ q < 4, (- nI (1 + q) = -1 ↔ q = 0) ∧ (- nI (1 + q) = -2 ↔ q = 1) ∧ (- nI (1 + q) = -3 ↔ q = 2) ∧ (- nI (1 + q) = -4 ↔ q = 3) := by decide
  obtain ⟨d1, d2, d3, d4⟩ := d q h
  simp only [d1, d2, d3, d4]
  by_cases c1 : q = 0
  · simp [c1]
  · by_cases c2 : q = 1
    · simp [c2]
    · by_cases c3 : q = 2
      · simp [c3]
      · obtain rfl : q = 3 := by omega
        simp
/-- what the loop over the law keeps -/
def LW (v len : Nat) (dp : Nat → Nat) (F : Nat → Int32) (i : Nat) (t t' : tS) : Prop :=
  t.1 (v + 11) 2 = nI len ∧ t'.2.1 225 len = 0 ∧ (∀ i, i < len → LI (t.2.1 (v + 12) i) (t'.2.1 225 i) (t'.2.1 226 i) (dp i) (dp (i + 1))) ∧ (∀ k, k < 4 → t'.2.1 232 k = F k) ∧ dp i ≤ 32 ∧ (∀ j, j < dp i → t.2.1 (v + 13) j = t'.2.1 233 j)
theorem LW.nx {len : Nat} {dp : Nat → Nat} {F : Nat → Int32} {i k : Nat} {x : Int32} (h : LW v len dp F i t t') (h1 : dp (i + 1) ≤ 32) (h2 : dp (i + 1) ≤ dp i ∨ (dp (i + 1) = dp i + 1 ∧ k = dp i)) : LW v len dp F (i + 1) (uA t (v + 13) k x) (uA t' 233 k x) := by
  obtain ⟨g1, g2, g3, g4, g5, g6⟩ := h
  refine ⟨g1, ?_, ?_, ?_, h1, ?_⟩
  · rw [uA_2, if_neg (by omega)]; exact g2
  · intro j hj
    rw [uA_2, uA_2, uA_2, if_neg (by omega), if_neg (by omega), if_neg (by omega)]
    exact g3 j hj
  · intro j hj
    rw [uA_2, if_neg (by omega)]
    exact g4 j hj
  · intro j hj
    rw [uA_2, uA_2]
    by_cases c : j = k
    · rw [if_pos ⟨rfl, c⟩, if_pos ⟨rfl, c⟩]
    · rw [if_neg (fun z => c z.2), if_neg (fun z => c z.2)]
      exact g6 j (by omega)
theorem LI.ne {c o g : Int32} {p q : Nat} (h : LI c o g p q) : o ≠ 0 := by
  rcases h with ⟨k, h1, h2, rfl, h4⟩ | ⟨k, h1, h2, rfl, h4⟩ | ⟨h2, rfl, h4⟩ | ⟨h1, h2⟩
  · decide
  · decide
  · decide
  · rcases h1 with ⟨_, rfl⟩ | ⟨_, rfl⟩ | ⟨_, rfl⟩ | ⟨_, rfl⟩ | ⟨_, rfl⟩ | ⟨_, rfl⟩ | ⟨_, rfl⟩ <;> decide
set_option maxHeartbeats 4000000 in
theorem PR.lawL {len : Nat} {dp : Nat → Nat} {F : Nat → Int32} (hl : len ≤ 1000) : ∀ (k i f f' : Nat) (t t' : tS), PR v nh nd st V a b n m S t0 t0' t t' → LW v len dp F i t t' → i + k = len → k < f → k < f' → ∃ t1 t1', tX1_value_L6 f (v + 11) (F 0) (F 1) (F 2) (F 3) (nI (dp i)) (nI i) t = some (nI (dp len), t1) ∧ tX10_worthAt_L4 f' (nI (dp i)) (nI i) t' = some t1' ∧ PR v nh nd st V a b n m S t0 t0' t1 t1' ∧ LW v len dp F len t1 t1' ∧ t1.1 = t.1 ∧ t1'.1 = t'.1 := by
  intro k
  induction k with
  | zero =>
    intro i f f' t t' h hw hi hf hf'
    obtain ⟨f, rfl⟩ : ∃ g, f = g + 1 := ⟨f - 1, by omega⟩
    obtain ⟨f', rfl⟩ : ∃ g, f' = g + 1 := ⟨f' - 1, by omega⟩
    obtain rfl : i = len := by omega
    rw [tX1_value_L6, tX10_worthAt_L4]
    rw [hw.1, if_pos (Int32.le_refl _), tA_e (by omega) (by omega), hw.2.1]
    simp only [ob_s, eq_self, ite_true]
    exact ⟨_, _, rfl, rfl, h, hw, rfl, rfl⟩
  | succ k ih =>
    intro i f f' t t' h hw hi hf hf'
    obtain ⟨f, rfl⟩ : ∃ g, f = g + 1 := ⟨f - 1, by omega⟩
    obtain ⟨f', rfl⟩ : ∃ g, f' = g + 1 := ⟨f' - 1, by omega⟩
    have c1 : ¬ len ≤ i := by omega
    have hI := hw.2.2.1 i (by omega)
    have h0 := hI.ne
    have h32 := hw.2.2.2.2.1
    rw [tX1_value_L6, tX10_worthAt_L4]
    rw [show v + 11 + 1 = v + 12 from rfl, show v + 11 + 2 = v + 13 from rfl]
    simp (disch := omega) only [tA_e, tA_l, tW0_e, tW0_l, nN_al, nN_la, nN_ad, nN_lm, nN_ml, nN_le, nN_lt, nN_eq, nN_lel, nN_lle, nN_ltl, nN_llt, nN_eql, nN_rm, nN_dv, ob_s, ob_2, ob_3, ite_true, ite_false, not_true_eq_false, not_false_eq_true, ite_self, eq_self, Nat.add_zero, hw.1, c1, h0, nN_of]
    have fin : ∀ {j : Nat} {x : Int32}, dp (i + 1) ≤ 32 → (dp (i + 1) ≤ dp i ∨ (dp (i + 1) = dp i + 1 ∧ j = dp i)) → ∃ t1 t1', tX1_value_L6 f (v + 11) (F 0) (F 1) (F 2) (F 3) (nI (dp (i + 1))) (nI (i + 1)) (uA t (v + 13) j x) = some (nI (dp len), t1) ∧ tX10_worthAt_L4 f' (nI (dp (i + 1))) (nI (i + 1)) (uA t' 233 j x) = some t1' ∧ PR v nh nd st V a b n m S t0 t0' t1 t1' ∧ LW v len dp F len t1 t1' ∧ t1.1 = t.1 ∧ t1'.1 = t'.1 := by
      intro j x g1 g2
      exact ih (i + 1) f f' _ _ (h.cP.mP (.inr rfl)) (hw.nx g1 g2) (by omega) (by omega) (by omega)
    generalize t.2.1 (v + 12) i = c at hI ⊢
    generalize t'.2.1 225 i = o at hI h0 ⊢
    rcases hI with ⟨q, q1, rfl, rfl, q4, q5, q6⟩ | ⟨q, q1, rfl, rfl, q4, q5, q6⟩ | ⟨rfl, rfl, q5, q6⟩ | ⟨q1, q5, q6⟩
    · have e5 : ¬ nI q = (-5 : Int32) := nN_ng (by omega) (by decide)
      have e6 : (-5 : Int32) ≤ nI q := nN_gn (by omega) (by decide)
      have e1 : ¬ nI q = (-1 : Int32) := nN_ng (by omega) (by decide)
      have e2 : ¬ nI q = (-2 : Int32) := nN_ng (by omega) (by decide)
      have e3 : ¬ nI q = (-3 : Int32) := nN_ng (by omega) (by decide)
      have e4 : ¬ nI q = (-4 : Int32) := nN_ng (by omega) (by decide)
      have e7 : ¬ 32 ≤ dp i := by omega
      simp (disch := omega) only [tA_e, tA_l, tW0_e, tW0_l, nN_al, nN_la, nN_ad, nN_lm, nN_ml, nN_le, nN_lt, nN_eq, nN_lel, nN_lle, nN_ltl, nN_llt, nN_eql, nN_rm, nN_dv, ob_s, ob_2, ob_3, ite_true, ite_false, not_true_eq_false, not_false_eq_true, ite_self, eq_self, Nat.add_zero, e1, e2, e3, e4, e5, e6, e7, q4]
      rw [← q6]
      exact fin (by omega) (.inr ⟨q6, rfl⟩)
    · have e5 := law_5 q1
      have e6 := law_6 q1
      have e7 : ¬ 32 ≤ dp i := by omega
      have e8 := law_8 (F := F) q1
      simp (disch := omega) only [nN_al, nN_le, e5, e6, e7, ite_true, ite_false, not_true_eq_false, not_false_eq_true]
      rw [e8]
      have d1 : ¬ ((2 : Int32) = 1) := by decide
      simp (disch := omega) only [tA_e, tA_l, tW0_e, tW0_l, nN_al, nN_la, nN_ad, nN_lm, nN_ml, nN_le, nN_lt, nN_eq, nN_lel, nN_lle, nN_ltl, nN_llt, nN_eql, nN_rm, nN_dv, ob_s, ob_2, ob_3, ite_true, ite_false, not_true_eq_false, not_false_eq_true, ite_self, eq_self, Nat.add_zero, d1, q4, hw.2.2.2.1 q q1]
      rw [← q6]
      exact fin (by omega) (.inr ⟨q6, rfl⟩)
    · have e7 : ¬ dp i ≤ 0 := by omega
      have d1 : ¬ ((3 : Int32) = 1) := by decide
      have d2 : ¬ ((3 : Int32) = 2) := by decide
      simp (disch := omega) only [tA_e, tA_l, tW0_e, tW0_l, nN_al, nN_la, nN_ad, nN_lm, nN_ml, nN_le, nN_lt, nN_eq, nN_lel, nN_lle, nN_ltl, nN_llt, nN_eql, nN_rm, nN_dv, ob_s, ob_2, ob_3, ite_true, ite_false, not_true_eq_false, not_false_eq_true, ite_self, eq_self, Nat.add_zero, e7, d1, d2, nN_sl]
      rw [hw.2.2.2.2.2 (dp i - 1) (by omega)]
      have fin := @fin (dp i - 1)
      rw [q6] at fin
      by_cases z : t'.2.1 233 (dp i - 1) = 0
      · simp (disch := omega) only [tA_e, tA_l, tW0_e, tW0_l, nN_al, nN_la, nN_ad, nN_lm, nN_ml, nN_le, nN_lt, nN_eq, nN_lel, nN_lle, nN_ltl, nN_llt, nN_eql, nN_rm, nN_dv, ob_s, ob_2, ob_3, ite_true, ite_false, not_true_eq_false, not_false_eq_true, ite_self, eq_self, Nat.add_zero, z]
        exact fin (by omega) (.inl (by omega))
      · simp (disch := omega) only [tA_e, tA_l, tW0_e, tW0_l, nN_al, nN_la, nN_ad, nN_lm, nN_ml, nN_le, nN_lt, nN_eq, nN_lel, nN_lle, nN_ltl, nN_llt, nN_eql, nN_rm, nN_dv, ob_s, ob_2, ob_3, ite_true, ite_false, not_true_eq_false, not_false_eq_true, ite_self, eq_self, Nat.add_zero, z]
        exact fin (by omega) (.inl (by omega))
    · have e5 : ¬ c = (-5 : Int32) := by
        rcases q1 with ⟨rfl, _⟩ | ⟨rfl, _⟩ | ⟨rfl, _⟩ | ⟨rfl, _⟩ | ⟨rfl, _⟩ | ⟨rfl, _⟩ | ⟨rfl, _⟩ <;> decide
      have e6 : ¬ (-5 : Int32) ≤ c := by
        rcases q1 with ⟨rfl, _⟩ | ⟨rfl, _⟩ | ⟨rfl, _⟩ | ⟨rfl, _⟩ | ⟨rfl, _⟩ | ⟨rfl, _⟩ | ⟨rfl, _⟩ <;> decide
      have d1 : ¬ o = 1 := by
        rcases q1 with ⟨_, rfl⟩ | ⟨_, rfl⟩ | ⟨_, rfl⟩ | ⟨_, rfl⟩ | ⟨_, rfl⟩ | ⟨_, rfl⟩ | ⟨_, rfl⟩ <;> decide
      have d2 : ¬ o = 2 := by
        rcases q1 with ⟨_, rfl⟩ | ⟨_, rfl⟩ | ⟨_, rfl⟩ | ⟨_, rfl⟩ | ⟨_, rfl⟩ | ⟨_, rfl⟩ | ⟨_, rfl⟩ <;> decide
      have d3 : ¬ o = 3 := by
        rcases q1 with ⟨_, rfl⟩ | ⟨_, rfl⟩ | ⟨_, rfl⟩ | ⟨_, rfl⟩ | ⟨_, rfl⟩ | ⟨_, rfl⟩ | ⟨_, rfl⟩ <;> decide
      have e7 : ¬ dp i ≤ 1 := by omega
      have q7 : dp (i + 1) = dp i - 1 := by omega
      simp (disch := omega) only [tA_e, tA_l, tW0_e, tW0_l, nN_al, nN_la, nN_ad, nN_lm, nN_ml, nN_le, nN_lt, nN_eq, nN_lel, nN_lle, nN_ltl, nN_llt, nN_eql, nN_rm, nN_dv, ob_s, ob_2, ob_3, ite_true, ite_false, not_true_eq_false, not_false_eq_true, ite_self, eq_self, Nat.add_zero, e5, e6, d1, d2, d3, e7, nN_m1, nN_sl]
      rw [hw.2.2.2.2.2 (dp i - 1) (by omega), hw.2.2.2.2.2 (dp i - 1 - 1) (by omega)]
      obtain ⟨r, r1, r2⟩ := law_jb q1 (t'.2.1 233 (dp i - 1 - 1)) (t'.2.1 233 (dp i - 1)) t t'
      simp (disch := omega) only [tA_e, tA_l, tW0_e, tW0_l, nN_al, nN_la, nN_ad, nN_lm, nN_ml, nN_le, nN_lt, nN_eq, nN_lel, nN_lle, nN_ltl, nN_llt, nN_eql, nN_rm, nN_dv, ob_s, ob_2, ob_3, ite_true, ite_false, not_true_eq_false, not_false_eq_true, ite_self, eq_self, Nat.add_zero, r1, r2]
      rw [← q7]
      exact fin (by omega) (.inl (by omega))
/-- the facts lie as the reference lays them -/
theorem PR.law (h : PR v nh nd st V a b n m S t0 t0' t t') {F : Nat → Int32} (hF : ∀ k, k < 4 → t'.2.1 232 k = F k) (hl : t.1 v 15 = 1) : ∃ r t1 t1', tX1_value (v + 11) (F 0) (F 1) (F 2) (F 3) t = some (r, t1) ∧ tX10_worthAt (nI 0) t' = some (r, t1') ∧ PR v nh nd st V a b n m S t0 t0' t1 t1' ∧ t1.1 = t.1 ∧ t1'.1 = t'.1 := by
  obtain ⟨z, _⟩ | ⟨_, _, len, dp, g1, g2, g3, g4, g5, g6⟩ := h.2.2.2.2.1
  · rw [hl] at z
    exact absurd z (by decide)
  · have hw : LW v len dp F 0 t t' := ⟨g2, g5, g6, hF, by omega, fun j hj => by omega⟩
    obtain ⟨t1, t1', e1, e2, e3, e4, e5, e6⟩ := PR.lawL g1 len 0 4000 4000 t t' h hw (by omega) (by omega) (by omega)
    rw [g3] at e1 e2
    unfold tX1_value tX10_worthAt
    rw [show (0 : Int32) = nI 0 from rfl, e1, e2]
    have e7 := e4.2.2.2.2.2 0 (by omega)
    have z : ¬ (1 : Nat) ≤ 0 := by omega
    rw [show v + 11 + 2 = v + 13 from rfl]
    simp (disch := omega) only [tA_e, tA_l, tW0_e, tW0_l, nN_al, nN_la, nN_ad, nN_lm, nN_ml, nN_le, nN_lt, nN_eq, nN_lel, nN_lle, nN_ltl, nN_llt, nN_eql, nN_rm, nN_dv, ob_s, ob_2, ob_3, ite_true, ite_false, not_true_eq_false, not_false_eq_true, ite_self, eq_self, Nat.add_zero, g4, z, nN_sl, Nat.sub_self, e7]
    exact ⟨_, _, _, rfl, rfl, e3, e5, e6⟩
end
