/-! ===== PURE: questions about what is now ===== -/
section
variable {v nh nd st a b n m : Nat} {V : Nat → Nat → Nat} {S : Nat → Nat → Int32} {t0 t0' t t' : tS}
/-- what is now, in both -/
def PN (v nh nd st : Nat) (V : Nat → Nat → Nat) (n m : Nat) (S : Nat → Nat → Int32) (t t' : tS) : Prop := PR v nh nd st V 3 0 n m S t t' t t' ∧ SK nh nd st S ∧ t.2.2.2.2 0 9 = v
theorem QR.now {N : Nat} (h : QR v nh nd st V N t t') : ∃ n m S, PN v nh nd st V n m S t (uI t' 218 0 0) ∧ (∀ j, j < nh → NN (S 1 j) 10) ∧ (∀ d, d < nd → S 2 d = nI (V 7 d)) ∧ n ≤ 1000 ∧ m ≤ 6000 := by
  obtain ⟨h1, h2, ⟨k1, k2, k3, k4, k5⟩, ⟨n, m, S, s1, s2, s3, s4, s5, s6, s7⟩, h5⟩ := h
  exact ⟨n, m, S, ⟨⟨k1, ⟨k2.1, k2.2, by omega, by omega⟩, k3, k4, k5, s1, s2, CF.rf, MF.rf⟩, s3, h2⟩, s4, s5, by omega, by omega⟩
theorem PN.c1 (h : PN v nh nd st V n m S t t') {d : Nat} (hd : d < nh) : t.2.1 4 d = S 1 d := h.1.c1 hd
theorem PN.c3 (h : PN v nh nd st V n m S t t') {d : Nat} (hd : d < nd) : t.2.1 6 d = S 3 d := h.1.c3 hd
theorem PN.c4 (h : PN v nh nd st V n m S t t') {d : Nat} (hd : d < nd) : t.2.1 7 d = S 4 d := h.1.c4 hd
theorem PN.c5 (h : PN v nh nd st V n m S t t') {d : Nat} (hd : d < nd) : t.2.1 8 d = S 5 d := h.1.c5 hd
theorem PN.c6 (h : PN v nh nd st V n m S t t') {d : Nat} (hd : d < nd) : t.2.1 9 d = S 6 d := h.1.c6 hd
theorem PN.m1 (h : PN v nh nd st V n m S t t') {d : Nat} (hd : d < nh) : t'.2.1 234 (2 + d) = S 1 d := h.1.m1 hd
theorem PN.m3 (h : PN v nh nd st V n m S t t') {d : Nat} (hd : d < nd) : t'.2.1 234 (18 + d) = S 3 d := h.1.m3 hd
theorem PN.m4 (h : PN v nh nd st V n m S t t') {d : Nat} (hd : d < nd) : t'.2.1 234 (6 + d) = S 4 d := h.1.m4 hd
theorem PN.m5 (h : PN v nh nd st V n m S t t') {d : Nat} (hd : d < nd) : t'.2.1 234 (12 + d) = S 5 d := h.1.m5 hd
theorem PN.m6 (h : PN v nh nd st V n m S t t') {d : Nat} (hd : d < nd) : t'.2.1 234 (24 + d) = S 6 d := h.1.m6 hd
theorem PN.inHouse (h : PN v nh nd st V n m S t t') {x : Int32} : tX10_inHouse 0 x t' = some (nI (gs (S 4) x nd)) := h.1.inHouse
theorem PN.freeOf (h : PN v nh nd st V n m S t t') {x : Nat} (hx : x < nh) : tX10_freeOf 0 (nI x) t' = some (fb V (S 4) (nI x) (S 1 x) nd) := h.1.freeOf hx
theorem PN.isDay (h : PN v nh nd st V n m S t t') {x : Int32} : tX9_isDay x t = some (bI (inr x nd)) := (h.1.br.isDay h.2.2).1
theorem PN.isDay' (h : PN v nh nd st V n m S t t') {x : Int32} : tX10_isDay x t' = some (bI (inr x nd)) := (h.1.br.isDay h.2.2).2
theorem PN.isHouse (h : PN v nh nd st V n m S t t') {x : Int32} : tX9_isHouse x t = some (bI (inr x nh)) := (h.1.br.isHouse h.2.2).1
theorem PN.isHouse' (h : PN v nh nd st V n m S t t') {x : Int32} : tX10_isHouse x t' = some (bI (inr x nh)) := (h.1.br.isHouse h.2.2).2
/-- what is said in a house -/
def tk (f g : Nat → Int32) (x : Int32) : Nat → Int32
  | 0 => 0
  | k + 1 => tk f g x k + (if f k = x then g k else 0)
theorem PR.tkL (h : PR v nh nd st V a b n m S t0 t0' t t') {x : Int32} : ∀ (k i f f' : Nat), i + k = nd → k < f → k < f' → tX6_talk_L5 f a v x (tk (S 4) (S 3) x i) (nI i) t = some (tk (S 4) (S 3) x nd) ∧ tX10_talkIn_L5 f' (nI b) x (tk (S 4) (S 3) x i) (nI i) t' = some (tk (S 4) (S 3) x nd) := by
  have h6 := h.h6
  have hb := h.b1
  intro k
  induction k with
  | zero =>
    intro i f f' hi hf hf'
    obtain ⟨f, rfl⟩ : ∃ g, f = g + 1 := ⟨f - 1, by omega⟩
    obtain ⟨f', rfl⟩ : ∃ g, f' = g + 1 := ⟨f' - 1, by omega⟩
    obtain rfl : i = nd := by omega
    rw [tX6_talk_L5, tX10_talkIn_L5]
    simp (disch := omega) only [tA_e, tA_l, tW0_e, tW0_l, nN_al, nN_la, nN_ad, nN_lm, nN_ml, nN_le, nN_lt, nN_eq, nN_lel, nN_lle, nN_ltl, nN_llt, nN_eql, nN_rm, nN_dv, ob_s, ob_2, ob_3, ite_true, ite_false, not_true_eq_false, not_false_eq_true, ite_self, eq_self, Nat.add_zero, h.cd, h.days, Nat.le_refl, and_self]
  | succ k ih =>
    intro i f f' hi hf hf'
    obtain ⟨f, rfl⟩ : ∃ g, f = g + 1 := ⟨f - 1, by omega⟩
    obtain ⟨f', rfl⟩ : ∃ g, f' = g + 1 := ⟨f' - 1, by omega⟩
    have c1 : ¬ nd ≤ i := by omega
    rw [tX6_talk_L5, tX10_talkIn_L5]
    simp (disch := omega) only [tA_e, tA_l, tW0_e, tW0_l, nN_al, nN_la, nN_ad, nN_lm, nN_ml, nN_le, nN_lt, nN_eq, nN_lel, nN_lle, nN_ltl, nN_llt, nN_eql, nN_rm, nN_dv, ob_s, ob_2, ob_3, ite_true, ite_false, not_true_eq_false, not_false_eq_true, ite_self, eq_self, Nat.add_zero, h.cd, c1, h.c4, h.c3, h.days, h.m4, h.m3]
    have ih := ih (i + 1) f f' (by omega) (by omega) (by omega)
    rw [tk] at ih
    by_cases c : S 4 i = x
    · simp only [c, tA_e, tA_l, tW0_e, tW0_l, nN_al, nN_la, nN_ad, nN_lm, nN_ml, nN_le, nN_lt, nN_eq, nN_lel, nN_lle, nN_ltl, nN_llt, nN_eql, nN_rm, nN_dv, ob_s, ob_2, ob_3, ite_true, ite_false, not_true_eq_false, not_false_eq_true, ite_self, eq_self, Nat.add_zero] at ih ⊢
      exact ih
    · simp only [c, tA_e, tA_l, tW0_e, tW0_l, nN_al, nN_la, nN_ad, nN_lm, nN_ml, nN_le, nN_lt, nN_eq, nN_lel, nN_lle, nN_ltl, nN_llt, nN_eql, nN_rm, nN_dv, ob_s, ob_2, ob_3, ite_true, ite_false, not_true_eq_false, not_false_eq_true, ite_self, eq_self, Nat.add_zero, Int32.add_zero] at ih ⊢
      exact ih
theorem PR.talk (h : PR v nh nd st V a b n m S t0 t0' t t') {x : Int32} : tX6_talk a v x t = some (tk (S 4) (S 3) x nd) ∧ tX10_talkIn (nI b) x t' = some (tk (S 4) (S 3) x nd) := by
  have h6 := h.h6
  obtain ⟨e1, e2⟩ := h.tkL (x := x) nd 0 4000 4000 (by omega) (by omega) (by omega)
  rw [tk] at e1 e2
  unfold tX6_talk tX10_talkIn
  rw [show nI 0 = (0 : Int32) from rfl] at e1 e2
  rw [e1, e2]
  exact ⟨rfl, rfl⟩
theorem PN.talkIn (h : PN v nh nd st V n m S t t') {x : Int32} : tX10_talkIn 0 x t' = some (tk (S 4) (S 3) x nd) := h.1.talk.2
/-- the answer is the same, and only what was thrown is forgotten -/
def QB (o : Option Int32) (o' : Option (Int32 × tS)) (t' : tS) : Prop := ∃ r, o = some r ∧ o' = some (r, uI t' 218 0 0)
theorem QB.mk {x : Int32} : QB (some x) (some (x, uI t' 218 0 0)) t' := ⟨x, rfl, rfl⟩
theorem sm_n {d : Nat} (hd : d < 1000) : (nI d).toInt = (d : Int) := nN_toInt (by omega)
theorem wi_f {x : Int32} {k : Nat} (hk : k < 2147483648) (h : decide ((0 : Int32) ≤ x ∧ x ≤ nI k) = false) : x.toInt < 0 ∨ (k : Int) < x.toInt := by
  have h := of_decide_eq_false h
  rw [Int32.le_iff_toInt_le, Int32.le_iff_toInt_le, nN_toInt hk, show (0 : Int32).toInt = 0 from rfl] at h
  omega
set_option maxHeartbeats 4000000 in
theorem q_house {N : Nat} (h : QR v nh nd st V N t t') (x y : Int32) : QB (tX9_house x y t) (tX10_house x y t') t' := by
  obtain ⟨n, m, S, e1, e4, e5, e6, e7⟩ := h.now
  have h6 := h.2.2.1.1.2.1
  have h4 := h.2.2.1.1.1
  unfold tX9_house tX10_house
  simp only [ob_s, e1.isHouse, e1.isHouse', bI_0, wi_e.2, e1.2.2]
  cases hi : inr x nh
  · simp only [tA_e, tA_l, tW0_e, tW0_l, nN_al, nN_la, nN_ad, nN_lm, nN_ml, nN_le, nN_lt, nN_eq, nN_lel, nN_lle, nN_ltl, nN_llt, nN_eql, nN_rm, nN_dv, ob_s, ob_2, ob_3, ite_true, ite_false, not_true_eq_false, not_false_eq_true, ite_self, eq_self, Nat.add_zero, decide_true, decide_false, decide_not, Bool.not_true, Bool.not_false, Bool.true_and, Bool.false_and, Bool.and_true, Bool.and_false, Bool.or_true, Bool.true_or, Bool.or_false, Bool.false_or, if_true, if_false, Bool.false_eq_true, z01_0, z01_1]
    exact QB.mk
  · obtain ⟨j, hj, rfl⟩ := inr_t hi
    cases hw : decide ((0 : Int32) ≤ y ∧ y ≤ 4)
    · have := wi_f (k := 4) (by decide) hw
      simp only [tA_e, tA_l, tW0_e, tW0_l, nN_al, nN_la, nN_ad, nN_lm, nN_ml, nN_le, nN_lt, nN_eq, nN_lel, nN_lle, nN_ltl, nN_llt, nN_eql, nN_rm, nN_dv, ob_s, ob_2, ob_3, ite_true, ite_false, not_true_eq_false, not_false_eq_true, ite_self, eq_self, Nat.add_zero, decide_true, decide_false, decide_not, Bool.not_true, Bool.not_false, Bool.true_and, Bool.false_and, Bool.and_true, Bool.and_false, Bool.or_true, Bool.true_or, Bool.or_false, Bool.false_or, if_true, if_false, Bool.false_eq_true, z01_0, z01_1, Bool.true_eq_false]
      rw [if_pos (by omega)]
      exact QB.mk
    · obtain ⟨k, _, hk, rfl⟩ := wi_n (lo := 0) (hi := 4) (by decide) (by decide) hw
      simp only [tA_e, tA_l, tW0_e, tW0_l, nN_al, nN_la, nN_ad, nN_lm, nN_ml, nN_le, nN_lt, nN_eq, nN_lel, nN_lle, nN_ltl, nN_llt, nN_eql, nN_rm, nN_dv, ob_s, ob_2, ob_3, ite_true, ite_false, not_true_eq_false, not_false_eq_true, ite_self, eq_self, Nat.add_zero, decide_true, decide_false, decide_not, Bool.not_true, Bool.not_false, Bool.true_and, Bool.false_and, Bool.and_true, Bool.and_false, Bool.or_true, Bool.true_or, Bool.or_false, Bool.false_or, if_true, if_false, Bool.false_eq_true, z01_0, z01_1, Bool.true_eq_false]
      rw [sm_n (by omega), if_neg (by omega)]
      rw [show ((k : Int) - 0).toNat = k from by omega]
      obtain rfl | rfl | rfl | rfl | rfl : k = 0 ∨ k = 1 ∨ k = 2 ∨ k = 3 ∨ k = 4 := by omega
      · simp (decide := true) (disch := omega) only [tA_e, tA_l, tW0_e, tW0_l, nN_al, nN_la, nN_ad, nN_lm, nN_ml, nN_le, nN_lt, nN_eq, nN_lel, nN_lle, nN_ltl, nN_llt, nN_eql, nN_rm, nN_dv, ob_s, ob_2, ob_3, ite_true, ite_false, not_true_eq_false, not_false_eq_true, ite_self, eq_self, Nat.add_zero, e1.c1 hj, e1.m1 hj]
        exact QB.mk
      · simp (decide := true) (disch := omega) only [tA_e, tA_l, tW0_e, tW0_l, nN_al, nN_la, nN_ad, nN_lm, nN_ml, nN_le, nN_lt, nN_eq, nN_lel, nN_lle, nN_ltl, nN_llt, nN_eql, nN_rm, nN_dv, ob_s, ob_2, ob_3, ite_true, ite_false, not_true_eq_false, not_false_eq_true, ite_self, eq_self, Nat.add_zero, e1.1.freeBeds hj, e1.freeOf hj]
        exact QB.mk
      · simp (decide := true) (disch := omega) only [tA_e, tA_l, tW0_e, tW0_l, nN_al, nN_la, nN_ad, nN_lm, nN_ml, nN_le, nN_lt, nN_eq, nN_lel, nN_lle, nN_ltl, nN_llt, nN_eql, nN_rm, nN_dv, ob_s, ob_2, ob_3, ite_true, ite_false, not_true_eq_false, not_false_eq_true, ite_self, eq_self, Nat.add_zero, e1.1.guests, e1.inHouse]
        exact QB.mk
      · simp (decide := true) (disch := omega) only [tA_e, tA_l, tW0_e, tW0_l, nN_al, nN_la, nN_ad, nN_lm, nN_ml, nN_le, nN_lt, nN_eq, nN_lel, nN_lle, nN_ltl, nN_llt, nN_eql, nN_rm, nN_dv, ob_s, ob_2, ob_3, ite_true, ite_false, not_true_eq_false, not_false_eq_true, ite_self, eq_self, Nat.add_zero, e1.1.v3 hj, e1.1.houseOf1 hj]
        exact QB.mk
      · simp (decide := true) (disch := omega) only [tA_e, tA_l, tW0_e, tW0_l, nN_al, nN_la, nN_ad, nN_lm, nN_ml, nN_le, nN_lt, nN_eq, nN_lel, nN_lle, nN_ltl, nN_llt, nN_eql, nN_rm, nN_dv, ob_s, ob_2, ob_3, ite_true, ite_false, not_true_eq_false, not_false_eq_true, ite_self, eq_self, Nat.add_zero, e1.1.talk.1, e1.talkIn]
        exact QB.mk
set_option maxHeartbeats 4000000 in
theorem q_day {N : Nat} (h : QR v nh nd st V N t t') (x y : Int32) : QB (tX9_day x y t) (tX10_day x y t') t' := by
  obtain ⟨n, m, S, e1, e4, e5, e6, e7⟩ := h.now
  have h6 := h.2.2.1.1.2.1
  have h4 := h.2.2.1.1.1
  unfold tX9_day tX10_day
  simp only [ob_s, e1.isDay, e1.isDay', bI_0, wi_e.2, e1.2.2]
  cases hi : inr x nd
  · simp only [tA_e, tA_l, tW0_e, tW0_l, nN_al, nN_la, nN_ad, nN_lm, nN_ml, nN_le, nN_lt, nN_eq, nN_lel, nN_lle, nN_ltl, nN_llt, nN_eql, nN_rm, nN_dv, ob_s, ob_2, ob_3, ite_true, ite_false, not_true_eq_false, not_false_eq_true, ite_self, eq_self, Nat.add_zero, decide_true, decide_false, decide_not, Bool.not_true, Bool.not_false, Bool.true_and, Bool.false_and, Bool.and_true, Bool.and_false, Bool.or_true, Bool.true_or, Bool.or_false, Bool.false_or, if_true, if_false, Bool.false_eq_true, z01_0, z01_1]
    exact QB.mk
  · obtain ⟨j, hj, rfl⟩ := inr_t hi
    cases hw : decide ((0 : Int32) ≤ y ∧ y ≤ 7)
    · have := wi_f (k := 7) (by decide) hw
      simp only [tA_e, tA_l, tW0_e, tW0_l, nN_al, nN_la, nN_ad, nN_lm, nN_ml, nN_le, nN_lt, nN_eq, nN_lel, nN_lle, nN_ltl, nN_llt, nN_eql, nN_rm, nN_dv, ob_s, ob_2, ob_3, ite_true, ite_false, not_true_eq_false, not_false_eq_true, ite_self, eq_self, Nat.add_zero, decide_true, decide_false, decide_not, Bool.not_true, Bool.not_false, Bool.true_and, Bool.false_and, Bool.and_true, Bool.and_false, Bool.or_true, Bool.true_or, Bool.or_false, Bool.false_or, if_true, if_false, Bool.false_eq_true, z01_0, z01_1, Bool.true_eq_false]
      rw [if_pos (by omega)]
      exact QB.mk
    · obtain ⟨k, _, hk, rfl⟩ := wi_n (lo := 0) (hi := 7) (by decide) (by decide) hw
      simp only [tA_e, tA_l, tW0_e, tW0_l, nN_al, nN_la, nN_ad, nN_lm, nN_ml, nN_le, nN_lt, nN_eq, nN_lel, nN_lle, nN_ltl, nN_llt, nN_eql, nN_rm, nN_dv, ob_s, ob_2, ob_3, ite_true, ite_false, not_true_eq_false, not_false_eq_true, ite_self, eq_self, Nat.add_zero, decide_true, decide_false, decide_not, Bool.not_true, Bool.not_false, Bool.true_and, Bool.false_and, Bool.and_true, Bool.and_false, Bool.or_true, Bool.true_or, Bool.or_false, Bool.false_or, if_true, if_false, Bool.false_eq_true, z01_0, z01_1, Bool.true_eq_false]
      rw [sm_n (by omega), if_neg (by omega)]
      rw [show ((k : Int) - 0).toNat = k from by omega]
      obtain rfl | rfl | rfl | rfl | rfl | rfl | rfl | rfl : k = 0 ∨ k = 1 ∨ k = 2 ∨ k = 3 ∨ k = 4 ∨ k = 5 ∨ k = 6 ∨ k = 7 := by omega
      · rw [show nI 0 = (0 : Int32) from rfl]
        simp (decide := true) (disch := omega) only [tA_e, tA_l, tW0_e, tW0_l, nN_al, nN_la, nN_ad, nN_lm, nN_ml, nN_le, nN_lt, nN_eq, nN_lel, nN_lle, nN_ltl, nN_llt, nN_eql, nN_rm, nN_dv, ob_s, ob_2, ob_3, ite_true, ite_false, not_true_eq_false, not_false_eq_true, ite_self, eq_self, Nat.add_zero, e1.1.v5 hj, e1.1.dayOf0 hj]
        exact QB.mk
      · rw [show nI 1 = (1 : Int32) from rfl]
        simp (decide := true) (disch := omega) only [tA_e, tA_l, tW0_e, tW0_l, nN_al, nN_la, nN_ad, nN_lm, nN_ml, nN_le, nN_lt, nN_eq, nN_lel, nN_lle, nN_ltl, nN_llt, nN_eql, nN_rm, nN_dv, ob_s, ob_2, ob_3, ite_true, ite_false, not_true_eq_false, not_false_eq_true, ite_self, eq_self, Nat.add_zero, e1.1.v6 hj, e1.1.dayOf1 hj]
        exact QB.mk
      · rw [show nI 2 = (2 : Int32) from rfl]
        simp (decide := true) (disch := omega) only [tA_e, tA_l, tW0_e, tW0_l, nN_al, nN_la, nN_ad, nN_lm, nN_ml, nN_le, nN_lt, nN_eq, nN_lel, nN_lle, nN_ltl, nN_llt, nN_eql, nN_rm, nN_dv, ob_s, ob_2, ob_3, ite_true, ite_false, not_true_eq_false, not_false_eq_true, ite_self, eq_self, Nat.add_zero, e1.1.v7 hj, e1.1.dayOf2 hj]
        exact QB.mk
      · simp (decide := true) (disch := omega) only [tA_e, tA_l, tW0_e, tW0_l, nN_al, nN_la, nN_ad, nN_lm, nN_ml, nN_le, nN_lt, nN_eq, nN_lel, nN_lle, nN_ltl, nN_llt, nN_eql, nN_rm, nN_dv, ob_s, ob_2, ob_3, ite_true, ite_false, not_true_eq_false, not_false_eq_true, ite_self, eq_self, Nat.add_zero, e1.c3 hj, e1.m3 hj]
        exact QB.mk
      · simp (decide := true) (disch := omega) only [tA_e, tA_l, tW0_e, tW0_l, nN_al, nN_la, nN_ad, nN_lm, nN_ml, nN_le, nN_lt, nN_eq, nN_lel, nN_lle, nN_ltl, nN_llt, nN_eql, nN_rm, nN_dv, ob_s, ob_2, ob_3, ite_true, ite_false, not_true_eq_false, not_false_eq_true, ite_self, eq_self, Nat.add_zero, e1.c4 hj, e1.m4 hj]
        exact QB.mk
      · simp (decide := true) (disch := omega) only [tA_e, tA_l, tW0_e, tW0_l, nN_al, nN_la, nN_ad, nN_lm, nN_ml, nN_le, nN_lt, nN_eq, nN_lel, nN_lle, nN_ltl, nN_llt, nN_eql, nN_rm, nN_dv, ob_s, ob_2, ob_3, ite_true, ite_false, not_true_eq_false, not_false_eq_true, ite_self, eq_self, Nat.add_zero, e1.c5 hj, e1.m5 hj]
        exact QB.mk
      · simp (decide := true) (disch := omega) only [tA_e, tA_l, tW0_e, tW0_l, nN_al, nN_la, nN_ad, nN_lm, nN_ml, nN_le, nN_lt, nN_eq, nN_lel, nN_lle, nN_ltl, nN_llt, nN_eql, nN_rm, nN_dv, ob_s, ob_2, ob_3, ite_true, ite_false, not_true_eq_false, not_false_eq_true, ite_self, eq_self, Nat.add_zero, e1.c6 hj, e1.m6 hj]
        exact QB.mk
      · simp (decide := true) (disch := omega) only [tA_e, tA_l, tW0_e, tW0_l, nN_al, nN_la, nN_ad, nN_lm, nN_ml, nN_le, nN_lt, nN_eq, nN_lel, nN_lle, nN_ltl, nN_llt, nN_eql, nN_rm, nN_dv, ob_s, ob_2, ob_3, ite_true, ite_false, not_true_eq_false, not_false_eq_true, ite_self, eq_self, Nat.add_zero, e1.1.v9 hj, e1.1.dayOf4 hj]
        exact QB.mk
theorem PN.quL (h : PN v nh nd st V n m S t t') : ∀ (k i f f' : Nat) (x : Int32), (x = -1 ∨ NN x nd) → i + k = nd → k < f → k < f' → ∃ r, tX9_quiet_L4 f x (nI i) t = some r ∧ tX10_quiet_L9 f' x (nI i) t' = some r := by
  have h6 := h.1.h6
  intro k
  induction k with
  | zero =>
    intro i f f' x hx hi hf hf'
    obtain ⟨f, rfl⟩ : ∃ g, f = g + 1 := ⟨f - 1, by omega⟩
    obtain ⟨f', rfl⟩ : ∃ g, f' = g + 1 := ⟨f' - 1, by omega⟩
    obtain rfl : i = nd := by omega
    rw [tX9_quiet_L4, tX10_quiet_L9]
    simp (disch := omega) only [tA_e, tA_l, tW0_e, tW0_l, nN_al, nN_la, nN_ad, nN_lm, nN_ml, nN_le, nN_lt, nN_eq, nN_lel, nN_lle, nN_ltl, nN_llt, nN_eql, nN_rm, nN_dv, ob_s, ob_2, ob_3, ite_true, ite_false, not_true_eq_false, not_false_eq_true, ite_self, eq_self, Nat.add_zero, h.2.2, h.1.cd, h.1.days, Nat.le_refl]
    exact ⟨_, rfl, rfl⟩
  | succ k ih =>
    intro i f f' x hx hi hf hf'
    obtain ⟨f, rfl⟩ : ∃ g, f = g + 1 := ⟨f - 1, by omega⟩
    obtain ⟨f', rfl⟩ : ∃ g, f' = g + 1 := ⟨f' - 1, by omega⟩
    have c1 : ¬ nd ≤ i := by omega
    have hd : i < nd := by omega
    have gm := NN.m1 (by omega) hx
    rw [tX9_quiet_L4, tX10_quiet_L9]
    simp (disch := omega) only [tA_e, tA_l, tW0_e, tW0_l, nN_al, nN_la, nN_ad, nN_lm, nN_ml, nN_le, nN_lt, nN_eq, nN_lel, nN_lle, nN_ltl, nN_llt, nN_eql, nN_rm, nN_dv, ob_s, ob_2, ob_3, ite_true, ite_false, not_true_eq_false, not_false_eq_true, ite_self, eq_self, Nat.add_zero, h.2.2, h.1.cd, h.1.days, c1, gm.1, h.c3 hd, h.m3 hd]
    rcases hx with rfl | ⟨j, hj, rfl⟩
    · simp only [tA_e, tA_l, tW0_e, tW0_l, nN_al, nN_la, nN_ad, nN_lm, nN_ml, nN_le, nN_lt, nN_eq, nN_lel, nN_lle, nN_ltl, nN_llt, nN_eql, nN_rm, nN_dv, ob_s, ob_2, ob_3, ite_true, ite_false, not_true_eq_false, not_false_eq_true, ite_self, eq_self, Nat.add_zero]
      exact ih (i + 1) f f' _ (.inr ⟨i, hd, rfl⟩) (by omega) (by omega) (by omega)
    · have z : ¬ nI j = (-1 : Int32) := nN_ne1 (by omega)
      simp (disch := omega) only [tA_e, tA_l, tW0_e, tW0_l, nN_al, nN_la, nN_ad, nN_lm, nN_ml, nN_le, nN_lt, nN_eq, nN_lel, nN_lle, nN_ltl, nN_llt, nN_eql, nN_rm, nN_dv, ob_s, ob_2, ob_3, ite_true, ite_false, not_true_eq_false, not_false_eq_true, ite_self, eq_self, Nat.add_zero, z, h.c3 hj, h.m3 hj]
      by_cases c : S 3 j ≤ S 3 i
      · simp only [tA_e, tA_l, tW0_e, tW0_l, nN_al, nN_la, nN_ad, nN_lm, nN_ml, nN_le, nN_lt, nN_eq, nN_lel, nN_lle, nN_ltl, nN_llt, nN_eql, nN_rm, nN_dv, ob_s, ob_2, ob_3, ite_true, ite_false, not_true_eq_false, not_false_eq_true, ite_self, eq_self, Nat.add_zero, eq_true c]
        exact ih (i + 1) f f' _ (.inr ⟨j, hj, rfl⟩) (by omega) (by omega) (by omega)
      · simp only [tA_e, tA_l, tW0_e, tW0_l, nN_al, nN_la, nN_ad, nN_lm, nN_ml, nN_le, nN_lt, nN_eq, nN_lel, nN_lle, nN_ltl, nN_llt, nN_eql, nN_rm, nN_dv, ob_s, ob_2, ob_3, ite_true, ite_false, not_true_eq_false, not_false_eq_true, ite_self, eq_self, Nat.add_zero, c]
        exact ih (i + 1) f f' _ (.inr ⟨i, hd, rfl⟩) (by omega) (by omega) (by omega)
theorem q_quiet {N : Nat} (h : QR v nh nd st V N t t') : QB (tX9_quiet t) (tX10_quiet t') t' := by
  obtain ⟨n, m, S, e1, e4, e5, e6, e7⟩ := h.now
  have h6 := h.2.2.1.1.2.1
  obtain ⟨r, f1, f2⟩ := e1.quL nd 0 4000 4000 (-1) (.inl rfl) (by omega) (by omega) (by omega)
  rw [show nI 0 = (0 : Int32) from rfl] at f1 f2
  unfold tX9_quiet tX10_quiet
  simp only [ob_s, f1, f2]
  exact QB.mk
theorem dv_2 {x : Int32} : am_dv x 2 = some (x / 2) := by
  unfold am_dv
  rw [if_neg (by decide)]
theorem PN.peL (h : PN v nh nd st V n m S t t') : ∀ (k i f f' : Nat) (x : Int32), i + k = nh → k < f → k < f' → ∃ r, tX9_peace_L4 f x (nI i) t = some r ∧ tX10_peace_L9 f' x (nI i) t' = some r := by
  have h4 := h.1.h4
  intro k
  induction k with
  | zero =>
    intro i f f' x hi hf hf'
    obtain ⟨f, rfl⟩ : ∃ g, f = g + 1 := ⟨f - 1, by omega⟩
    obtain ⟨f', rfl⟩ : ∃ g, f' = g + 1 := ⟨f' - 1, by omega⟩
    obtain rfl : i = nh := by omega
    rw [tX9_peace_L4, tX10_peace_L9]
    simp (disch := omega) only [tA_e, tA_l, tW0_e, tW0_l, nN_al, nN_la, nN_ad, nN_lm, nN_ml, nN_le, nN_lt, nN_eq, nN_lel, nN_lle, nN_ltl, nN_llt, nN_eql, nN_rm, nN_dv, ob_s, ob_2, ob_3, ite_true, ite_false, not_true_eq_false, not_false_eq_true, ite_self, eq_self, Nat.add_zero, h.2.2, h.1.ch, h.1.houses, Nat.le_refl]
    exact ⟨_, rfl, rfl⟩
  | succ k ih =>
    intro i f f' x hi hf hf'
    obtain ⟨f, rfl⟩ : ∃ g, f = g + 1 := ⟨f - 1, by omega⟩
    obtain ⟨f', rfl⟩ : ∃ g, f' = g + 1 := ⟨f' - 1, by omega⟩
    have c1 : ¬ nh ≤ i := by omega
    have g := h.1.g64 (nI i)
    rw [tX9_peace_L4, tX10_peace_L9]
    simp (disch := omega) only [tA_e, tA_l, tW0_e, tW0_l, nN_al, nN_la, nN_ad, nN_lm, nN_ml, nN_le, nN_lt, nN_eq, nN_lel, nN_lle, nN_ltl, nN_llt, nN_eql, nN_rm, nN_dv, ob_s, ob_2, ob_3, ite_true, ite_false, not_true_eq_false, not_false_eq_true, ite_self, eq_self, Nat.add_zero, h.2.2, h.1.ch, h.1.houses, c1, h.1.guests, h.inHouse, bc_e g, bits_e g, dv_2]
    exact ih (i + 1) f f' _ (by omega) (by omega) (by omega)
theorem q_peace {N : Nat} (h : QR v nh nd st V N t t') : QB (tX9_peace t) (tX10_peace t') t' := by
  obtain ⟨n, m, S, e1, e4, e5, e6, e7⟩ := h.now
  have h6 := h.2.2.1.1.1
  obtain ⟨r, f1, f2⟩ := e1.peL nh 0 4000 4000 0 (by omega) (by omega) (by omega)
  rw [show nI 0 = (0 : Int32) from rfl] at f1 f2
  unfold tX9_peace tX10_peace
  simp only [ob_s, f1, f2]
  exact QB.mk
theorem PN.loL (h : PN v nh nd st V n m S t t') : ∀ (k i f f' : Nat) (x y : Int32), i + k = nh → k < f → k < f' → ∃ r, tX9_loudest_L6 f x y (nI i) t = some r ∧ tX10_loudest_L11 f' x y (nI i) t' = some r := by
  have h4 := h.1.h4
  intro k
  induction k with
  | zero =>
    intro i f f' x y hi hf hf'
    obtain ⟨f, rfl⟩ : ∃ g, f = g + 1 := ⟨f - 1, by omega⟩
    obtain ⟨f', rfl⟩ : ∃ g, f' = g + 1 := ⟨f' - 1, by omega⟩
    obtain rfl : i = nh := by omega
    rw [tX9_loudest_L6, tX10_loudest_L11]
    simp (disch := omega) only [tA_e, tA_l, tW0_e, tW0_l, nN_al, nN_la, nN_ad, nN_lm, nN_ml, nN_le, nN_lt, nN_eq, nN_lel, nN_lle, nN_ltl, nN_llt, nN_eql, nN_rm, nN_dv, ob_s, ob_2, ob_3, ite_true, ite_false, not_true_eq_false, not_false_eq_true, ite_self, eq_self, Nat.add_zero, h.2.2, h.1.ch, h.1.houses, Nat.le_refl]
    exact ⟨_, rfl, rfl⟩
  | succ k ih =>
    intro i f f' x y hi hf hf'
    obtain ⟨f, rfl⟩ : ∃ g, f = g + 1 := ⟨f - 1, by omega⟩
    obtain ⟨f', rfl⟩ : ∃ g, f' = g + 1 := ⟨f' - 1, by omega⟩
    have c1 : ¬ nh ≤ i := by omega
    rw [tX9_loudest_L6, tX10_loudest_L11]
    simp (disch := omega) only [tA_e, tA_l, tW0_e, tW0_l, nN_al, nN_la, nN_ad, nN_lm, nN_ml, nN_le, nN_lt, nN_eq, nN_lel, nN_lle, nN_ltl, nN_llt, nN_eql, nN_rm, nN_dv, ob_s, ob_2, ob_3, ite_true, ite_false, not_true_eq_false, not_false_eq_true, ite_self, eq_self, Nat.add_zero, h.2.2, h.1.ch, h.1.houses, c1, h.1.talk.1, h.talkIn]
    by_cases c : tk (S 4) (S 3) (nI i) nd ≤ y
    · simp only [tA_e, tA_l, tW0_e, tW0_l, nN_al, nN_la, nN_ad, nN_lm, nN_ml, nN_le, nN_lt, nN_eq, nN_lel, nN_lle, nN_ltl, nN_llt, nN_eql, nN_rm, nN_dv, ob_s, ob_2, ob_3, ite_true, ite_false, not_true_eq_false, not_false_eq_true, ite_self, eq_self, Nat.add_zero, eq_true c]
      exact ih (i + 1) f f' _ _ (by omega) (by omega) (by omega)
    · simp only [tA_e, tA_l, tW0_e, tW0_l, nN_al, nN_la, nN_ad, nN_lm, nN_ml, nN_le, nN_lt, nN_eq, nN_lel, nN_lle, nN_ltl, nN_llt, nN_eql, nN_rm, nN_dv, ob_s, ob_2, ob_3, ite_true, ite_false, not_true_eq_false, not_false_eq_true, ite_self, eq_self, Nat.add_zero, c]
      exact ih (i + 1) f f' _ _ (by omega) (by omega) (by omega)
theorem q_loudest {N : Nat} (h : QR v nh nd st V N t t') : QB (tX9_loudest t) (tX10_loudest t') t' := by
  obtain ⟨n, m, S, e1, e4, e5, e6, e7⟩ := h.now
  have h6 := h.2.2.1.1.1
  obtain ⟨r, f1, f2⟩ := e1.loL nh 0 4000 4000 (-1) 0 (by omega) (by omega) (by omega)
  rw [show nI 0 = (0 : Int32) from rfl] at f1 f2
  unfold tX9_loudest tX10_loudest
  simp only [ob_s, f1, f2]
  exact QB.mk
theorem PN.elL (h : PN v nh nd st V n m S t t') {j : Nat} (hj : j < nh) : ∀ (k i f f' : Nat) (x : Int32), (x = -1 ∨ NN x nd) → i + k = nd → k < f → k < f' → ∃ r, tX9_eldest_L14 f (nI j) x (nI i) t = some r ∧ tX10_eldest_L9 f' (nI j) x (nI i) t' = some r := by
  have h6 := h.1.h6
  have h4 := h.1.h4
  have hi2 : inr (nI j) nh = true := by rw [inr_n (by omega)]; exact decide_eq_true hj
  intro k
  induction k with
  | zero =>
    intro i f f' x hx hi hf hf'
    obtain ⟨f, rfl⟩ : ∃ g, f = g + 1 := ⟨f - 1, by omega⟩
    obtain ⟨f', rfl⟩ : ∃ g, f' = g + 1 := ⟨f' - 1, by omega⟩
    obtain rfl : i = nd := by omega
    rw [tX9_eldest_L14, tX10_eldest_L9]
    simp (disch := omega) only [tA_e, tA_l, tW0_e, tW0_l, nN_al, nN_la, nN_ad, nN_lm, nN_ml, nN_le, nN_lt, nN_eq, nN_lel, nN_lle, nN_ltl, nN_llt, nN_eql, nN_rm, nN_dv, ob_s, ob_2, ob_3, ite_true, ite_false, not_true_eq_false, not_false_eq_true, ite_self, eq_self, Nat.add_zero, h.2.2, h.1.cd, h.1.days, Nat.le_refl]
    exact ⟨_, rfl, rfl⟩
  | succ k ih =>
    intro i f f' x hx hi hf hf'
    obtain ⟨f, rfl⟩ : ∃ g, f = g + 1 := ⟨f - 1, by omega⟩
    obtain ⟨f', rfl⟩ : ∃ g, f' = g + 1 := ⟨f' - 1, by omega⟩
    have c1 : ¬ nd ≤ i := by omega
    have hd : i < nd := by omega
    have gm := NN.m1 (by omega) hx
    rw [tX9_eldest_L14, tX10_eldest_L9]
    simp (disch := omega) only [tA_e, tA_l, tW0_e, tW0_l, nN_al, nN_la, nN_ad, nN_lm, nN_ml, nN_le, nN_lt, nN_eq, nN_lel, nN_lle, nN_ltl, nN_llt, nN_eql, nN_rm, nN_dv, ob_s, ob_2, ob_3, ite_true, ite_false, not_true_eq_false, not_false_eq_true, ite_self, eq_self, Nat.add_zero, decide_true, decide_false, decide_not, Bool.not_true, Bool.not_false, Bool.true_and, Bool.false_and, Bool.and_true, Bool.and_false, Bool.or_true, Bool.true_or, Bool.or_false, Bool.false_or, if_true, if_false, Bool.false_eq_true, z01_0, z01_1, h.2.2, h.1.cd, h.1.days, c1, gm.1, h.c4 hd, h.m4 hd, h.c5 hd, h.m5 hd, h.isHouse', hi2, bI_0, Bool.true_eq_false]
    by_cases c2 : S 4 i = nI j
    · rcases hx with rfl | ⟨e, he, rfl⟩
      · simp only [tA_e, tA_l, tW0_e, tW0_l, nN_al, nN_la, nN_ad, nN_lm, nN_ml, nN_le, nN_lt, nN_eq, nN_lel, nN_lle, nN_ltl, nN_llt, nN_eql, nN_rm, nN_dv, ob_s, ob_2, ob_3, ite_true, ite_false, not_true_eq_false, not_false_eq_true, ite_self, eq_self, Nat.add_zero, c2]
        exact ih (i + 1) f f' _ (.inr ⟨i, hd, rfl⟩) (by omega) (by omega) (by omega)
      · have z : ¬ nI e = (-1 : Int32) := nN_ne1 (by omega)
        simp (disch := omega) only [tA_e, tA_l, tW0_e, tW0_l, nN_al, nN_la, nN_ad, nN_lm, nN_ml, nN_le, nN_lt, nN_eq, nN_lel, nN_lle, nN_ltl, nN_llt, nN_eql, nN_rm, nN_dv, ob_s, ob_2, ob_3, ite_true, ite_false, not_true_eq_false, not_false_eq_true, ite_self, eq_self, Nat.add_zero, c2, z, h.c5 he, h.m5 he]
        by_cases c : S 5 i ≤ S 5 e
        · simp only [tA_e, tA_l, tW0_e, tW0_l, nN_al, nN_la, nN_ad, nN_lm, nN_ml, nN_le, nN_lt, nN_eq, nN_lel, nN_lle, nN_ltl, nN_llt, nN_eql, nN_rm, nN_dv, ob_s, ob_2, ob_3, ite_true, ite_false, not_true_eq_false, not_false_eq_true, ite_self, eq_self, Nat.add_zero, eq_true c]
          exact ih (i + 1) f f' _ (.inr ⟨e, he, rfl⟩) (by omega) (by omega) (by omega)
        · simp only [tA_e, tA_l, tW0_e, tW0_l, nN_al, nN_la, nN_ad, nN_lm, nN_ml, nN_le, nN_lt, nN_eq, nN_lel, nN_lle, nN_ltl, nN_llt, nN_eql, nN_rm, nN_dv, ob_s, ob_2, ob_3, ite_true, ite_false, not_true_eq_false, not_false_eq_true, ite_self, eq_self, Nat.add_zero, c]
          exact ih (i + 1) f f' _ (.inr ⟨i, hd, rfl⟩) (by omega) (by omega) (by omega)
    · simp only [tA_e, tA_l, tW0_e, tW0_l, nN_al, nN_la, nN_ad, nN_lm, nN_ml, nN_le, nN_lt, nN_eq, nN_lel, nN_lle, nN_ltl, nN_llt, nN_eql, nN_rm, nN_dv, ob_s, ob_2, ob_3, ite_true, ite_false, not_true_eq_false, not_false_eq_true, ite_self, eq_self, Nat.add_zero, c2]
      exact ih (i + 1) f f' _ hx (by omega) (by omega) (by omega)
theorem q_eldest {N : Nat} (h : QR v nh nd st V N t t') (x : Int32) : QB (tX9_eldest x t) (tX10_eldest x t') t' := by
  obtain ⟨n, m, S, e1, e4, e5, e6, e7⟩ := h.now
  have h6 := h.2.2.1.1.2.1
  unfold tX9_eldest tX10_eldest
  simp only [ob_s, e1.isHouse, bI_0]
  cases hi : inr x nh
  · have : tX10_eldest_L9 4000 x (-1) 0 (uI t' 218 0 0) = some (-1) := by
      rw [show 4000 = 3999 + 1 from rfl, tX10_eldest_L9]
      rw [show (0 : Int32) = nI 0 from rfl]
      rw [show (0 : Int32) = nI 0 from rfl] at e1
      simp (disch := omega) only [tA_e, tA_l, tW0_e, tW0_l, nN_al, nN_la, nN_ad, nN_lm, nN_ml, nN_le, nN_lt, nN_eq, nN_lel, nN_lle, nN_ltl, nN_llt, nN_eql, nN_rm, nN_dv, ob_s, ob_2, ob_3, ite_true, ite_false, not_true_eq_false, not_false_eq_true, ite_self, eq_self, Nat.add_zero, e1.1.days, e1.isHouse', hi]
      by_cases c : nd ≤ 0
      · simp only [tA_e, tA_l, tW0_e, tW0_l, nN_al, nN_la, nN_ad, nN_lm, nN_ml, nN_le, nN_lt, nN_eq, nN_lel, nN_lle, nN_ltl, nN_llt, nN_eql, nN_rm, nN_dv, ob_s, ob_2, ob_3, ite_true, ite_false, not_true_eq_false, not_false_eq_true, ite_self, eq_self, Nat.add_zero, eq_true c]
      · simp only [tA_e, tA_l, tW0_e, tW0_l, nN_al, nN_la, nN_ad, nN_lm, nN_ml, nN_le, nN_lt, nN_eq, nN_lel, nN_lle, nN_ltl, nN_llt, nN_eql, nN_rm, nN_dv, ob_s, ob_2, ob_3, ite_true, ite_false, not_true_eq_false, not_false_eq_true, ite_self, eq_self, Nat.add_zero, c]
        rfl
    rw [this]
    simp only [tA_e, tA_l, tW0_e, tW0_l, nN_al, nN_la, nN_ad, nN_lm, nN_ml, nN_le, nN_lt, nN_eq, nN_lel, nN_lle, nN_ltl, nN_llt, nN_eql, nN_rm, nN_dv, ob_s, ob_2, ob_3, ite_true, ite_false, not_true_eq_false, not_false_eq_true, ite_self, eq_self, Nat.add_zero, decide_true, decide_false, decide_not, Bool.not_true, Bool.not_false, Bool.true_and, Bool.false_and, Bool.and_true, Bool.and_false, Bool.or_true, Bool.true_or, Bool.or_false, Bool.false_or, if_true, if_false, Bool.false_eq_true, z01_0, z01_1]
    exact QB.mk
  · obtain ⟨j, hj, rfl⟩ := inr_t hi
    obtain ⟨r, f1, f2⟩ := e1.elL hj nd 0 4000 4000 (-1) (.inl rfl) (by omega) (by omega) (by omega)
    rw [show nI 0 = (0 : Int32) from rfl] at f1 f2
    simp only [tA_e, tA_l, tW0_e, tW0_l, nN_al, nN_la, nN_ad, nN_lm, nN_ml, nN_le, nN_lt, nN_eq, nN_lel, nN_lle, nN_ltl, nN_llt, nN_eql, nN_rm, nN_dv, ob_s, ob_2, ob_3, ite_true, ite_false, not_true_eq_false, not_false_eq_true, ite_self, eq_self, Nat.add_zero, decide_true, decide_false, decide_not, Bool.not_true, Bool.not_false, Bool.true_and, Bool.false_and, Bool.and_true, Bool.and_false, Bool.or_true, Bool.true_or, Bool.or_false, Bool.false_or, if_true, if_false, Bool.false_eq_true, z01_0, z01_1, Bool.true_eq_false, f1, f2]
    exact QB.mk
end
