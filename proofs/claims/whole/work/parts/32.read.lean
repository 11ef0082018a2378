/-! ===== PURE: what is read of a stand ===== -/
section
variable {v nh nd st a b n m : Nat} {V : Nat → Nat → Nat} {S : Nat → Nat → Int32} {t0 t0' t t' : tS}
theorem PR.days (h : PR v nh nd st V a b n m S t0 t0' t t') : tX10_days t' = some (nI nd) := by
  unfold tX10_days
  simp (disch := omega) only [tA_e, tA_l, tW0_e, tW0_l, nN_al, nN_la, nN_ad, nN_lm, nN_ml, nN_le, nN_lt, nN_eq, nN_lel, nN_lle, nN_ltl, nN_llt, nN_eql, nN_rm, nN_dv, ob_s, ob_2, ob_3, ite_true, ite_false, not_true_eq_false, not_false_eq_true, ite_self, eq_self, Nat.add_zero, h.md]
theorem PR.houses (h : PR v nh nd st V a b n m S t0 t0' t t') : tX10_houses t' = some (nI nh) := by
  unfold tX10_houses
  simp (disch := omega) only [tA_e, tA_l, tW0_e, tW0_l, nN_al, nN_la, nN_ad, nN_lm, nN_ml, nN_le, nN_lt, nN_eq, nN_lel, nN_lle, nN_ltl, nN_llt, nN_eql, nN_rm, nN_dv, ob_s, ob_2, ob_3, ite_true, ite_false, not_true_eq_false, not_false_eq_true, ite_self, eq_self, Nat.add_zero, h.mh]
theorem PR.dayOf0 (h : PR v nh nd st V a b n m S t0 t0' t t') {j : Nat} (hj : j < nd) : tX10_dayOf (nI j) 0 t' = some (nI (V 5 j)) := by
  have := h.h6
  unfold tX10_dayOf
  simp (disch := omega) only [tA_e, tA_l, tW0_e, tW0_l, nN_al, nN_la, nN_ad, nN_lm, nN_ml, nN_le, nN_lt, nN_eq, nN_lel, nN_lle, nN_ltl, nN_llt, nN_eql, nN_rm, nN_dv, ob_s, ob_2, ob_3, ite_true, ite_false, not_true_eq_false, not_false_eq_true, ite_self, eq_self, Nat.add_zero, h.u5, Nat.add_zero]
theorem PR.dayOf1 (h : PR v nh nd st V a b n m S t0 t0' t t') {j : Nat} (hj : j < nd) : tX10_dayOf (nI j) 1 t' = some (nI (V 6 j)) := by
  have := h.h6
  unfold tX10_dayOf
  simp (disch := omega) only [tA_e, tA_l, tW0_e, tW0_l, nN_al, nN_la, nN_ad, nN_lm, nN_ml, nN_le, nN_lt, nN_eq, nN_lel, nN_lle, nN_ltl, nN_llt, nN_eql, nN_rm, nN_dv, ob_s, ob_2, ob_3, ite_true, ite_false, not_true_eq_false, not_false_eq_true, ite_self, eq_self, Nat.add_zero, h.u6]
theorem PR.dayOf2 (h : PR v nh nd st V a b n m S t0 t0' t t') {j : Nat} (hj : j < nd) : tX10_dayOf (nI j) 2 t' = some (nI (V 7 j)) := by
  have := h.h6
  unfold tX10_dayOf
  simp (disch := omega) only [tA_e, tA_l, tW0_e, tW0_l, nN_al, nN_la, nN_ad, nN_lm, nN_ml, nN_le, nN_lt, nN_eq, nN_lel, nN_lle, nN_ltl, nN_llt, nN_eql, nN_rm, nN_dv, ob_s, ob_2, ob_3, ite_true, ite_false, not_true_eq_false, not_false_eq_true, ite_self, eq_self, Nat.add_zero, h.u7]
theorem PR.dayOf3 (h : PR v nh nd st V a b n m S t0 t0' t t') {j : Nat} (hj : j < nd) : tX10_dayOf (nI j) 3 t' = some (nI (V 8 j)) := by
  have := h.h6
  unfold tX10_dayOf
  simp (disch := omega) only [tA_e, tA_l, tW0_e, tW0_l, nN_al, nN_la, nN_ad, nN_lm, nN_ml, nN_le, nN_lt, nN_eq, nN_lel, nN_lle, nN_ltl, nN_llt, nN_eql, nN_rm, nN_dv, ob_s, ob_2, ob_3, ite_true, ite_false, not_true_eq_false, not_false_eq_true, ite_self, eq_self, Nat.add_zero, h.u8]
theorem PR.dayOf4 (h : PR v nh nd st V a b n m S t0 t0' t t') {j : Nat} (hj : j < nd) : tX10_dayOf (nI j) 4 t' = some (nI (V 9 j)) := by
  have := h.h6
  unfold tX10_dayOf
  simp (disch := omega) only [tA_e, tA_l, tW0_e, tW0_l, nN_al, nN_la, nN_ad, nN_lm, nN_ml, nN_le, nN_lt, nN_eq, nN_lel, nN_lle, nN_ltl, nN_llt, nN_eql, nN_rm, nN_dv, ob_s, ob_2, ob_3, ite_true, ite_false, not_true_eq_false, not_false_eq_true, ite_self, eq_self, Nat.add_zero, h.u9]
theorem PR.houseOf0 (h : PR v nh nd st V a b n m S t0 t0' t t') {j : Nat} (hj : j < nh) : tX10_houseOf (nI j) 0 t' = some (nI (V 2 j)) := by
  have := h.h4
  unfold tX10_houseOf
  simp (disch := omega) only [tA_e, tA_l, tW0_e, tW0_l, nN_al, nN_la, nN_ad, nN_lm, nN_ml, nN_le, nN_lt, nN_eq, nN_lel, nN_lle, nN_ltl, nN_llt, nN_eql, nN_rm, nN_dv, ob_s, ob_2, ob_3, ite_true, ite_false, not_true_eq_false, not_false_eq_true, ite_self, eq_self, Nat.add_zero, h.u2, Nat.add_zero]
theorem PR.houseOf1 (h : PR v nh nd st V a b n m S t0 t0' t t') {j : Nat} (hj : j < nh) : tX10_houseOf (nI j) 1 t' = some (nI (V 3 j)) := by
  have := h.h4
  unfold tX10_houseOf
  simp (disch := omega) only [tA_e, tA_l, tW0_e, tW0_l, nN_al, nN_la, nN_ad, nN_lm, nN_ml, nN_le, nN_lt, nN_eq, nN_lel, nN_lle, nN_ltl, nN_llt, nN_eql, nN_rm, nN_dv, ob_s, ob_2, ob_3, ite_true, ite_false, not_true_eq_false, not_false_eq_true, ite_self, eq_self, Nat.add_zero, h.u3]
/-- in how many beds a day lies -/
def wd (V : Nat → Nat → Nat) (d : Nat) : Nat := if V 5 d = 1 then 2 else 1
theorem PR.kd (h : PR v nh nd st V a b n m S t0 t0' t t') {j : Nat} (hj : j < nd) : V 5 j < 4 := (h.1.2.2.2.2.2.1 j hj).1
theorem PR.widthOf (h : PR v nh nd st V a b n m S t0 t0' t t') {j : Nat} (hj : j < nd) : tX10_widthOf (nI j) t' = some (nI (wd V j)) := by
  have := h.kd hj
  unfold tX10_widthOf wd
  simp (disch := omega) only [tA_e, tA_l, tW0_e, tW0_l, nN_al, nN_la, nN_ad, nN_lm, nN_ml, nN_le, nN_lt, nN_eq, nN_lel, nN_lle, nN_ltl, nN_llt, nN_eql, nN_rm, nN_dv, ob_s, ob_2, ob_3, ite_true, ite_false, not_true_eq_false, not_false_eq_true, ite_self, eq_self, Nat.add_zero, h.dayOf0 hj]
  by_cases c : V 5 j = 1
  · simp only [c, tA_e, tA_l, tW0_e, tW0_l, nN_al, nN_la, nN_ad, nN_lm, nN_ml, nN_le, nN_lt, nN_eq, nN_lel, nN_lle, nN_ltl, nN_llt, nN_eql, nN_rm, nN_dv, ob_s, ob_2, ob_3, ite_true, ite_false, not_true_eq_false, not_false_eq_true, ite_self, eq_self, Nat.add_zero]
    rfl
  · simp only [c, tA_e, tA_l, tW0_e, tW0_l, nN_al, nN_la, nN_ad, nN_lm, nN_ml, nN_le, nN_lt, nN_eq, nN_lel, nN_lle, nN_ltl, nN_llt, nN_eql, nN_rm, nN_dv, ob_s, ob_2, ob_3, ite_true, ite_false, not_true_eq_false, not_false_eq_true, ite_self, eq_self, Nat.add_zero]
    rfl
/-- the days at x, as bits -/
def gs (f : Nat → Int32) (x : Int32) : Nat → Nat
  | 0 => 0
  | k + 1 => gs f x k + (if f k = x then 2 ^ k else 0)
theorem gs_lt (f : Nat → Int32) (x : Int32) (k : Nat) : gs f x k < 2 ^ k := by
  induction k with
  | zero => exact Nat.one_pos
  | succ k ih =>
    unfold gs
    rw [Nat.pow_succ]
    split <;> omega
theorem or_pw {g k : Nat} (h : g < 2 ^ k) : g ||| 2 ^ k = g + 2 ^ k := by
  have := Nat.two_pow_add_eq_or_of_lt h 1
  rw [Nat.mul_one] at this
  rw [Nat.or_comm, ← this, Nat.add_comm]
theorem PR.gL (h : PR v nh nd st V a b n m S t0 t0' t t') {x : Int32} : ∀ (k i f : Nat), i + k = nd → k < f → tX6_guests_L5 f a v x (nI (gs (S 4) x i)) (nI i) t = some (nI (gs (S 4) x nd)) := by
  have h6 := h.h6
  intro k
  induction k with
  | zero =>
    intro i f hi hf
    obtain ⟨f, rfl⟩ : ∃ g, f = g + 1 := ⟨f - 1, by omega⟩
    obtain rfl : i = nd := by omega
    rw [tX6_guests_L5]
    simp (disch := omega) only [tA_e, tA_l, tW0_e, tW0_l, nN_al, nN_la, nN_ad, nN_lm, nN_ml, nN_le, nN_lt, nN_eq, nN_lel, nN_lle, nN_ltl, nN_llt, nN_eql, nN_rm, nN_dv, ob_s, ob_2, ob_3, ite_true, ite_false, not_true_eq_false, not_false_eq_true, ite_self, eq_self, Nat.add_zero, h.cd, Nat.le_refl]
  | succ k ih =>
    intro i f hi hf
    obtain ⟨f, rfl⟩ : ∃ g, f = g + 1 := ⟨f - 1, by omega⟩
    have c1 : ¬ nd ≤ i := by omega
    have hg := gs_lt (S 4) x i
    rw [tX6_guests_L5]
    simp (disch := omega) only [tA_e, tA_l, tW0_e, tW0_l, nN_al, nN_la, nN_ad, nN_lm, nN_ml, nN_le, nN_lt, nN_eq, nN_lel, nN_lle, nN_ltl, nN_llt, nN_eql, nN_rm, nN_dv, ob_s, ob_2, ob_3, ite_true, ite_false, not_true_eq_false, not_false_eq_true, ite_self, eq_self, Nat.add_zero, h.cd, c1, h.c4, nN_shl, nN_or, or_pw hg]
    have ih := ih (i + 1) f (by omega) (by omega)
    rw [gs] at ih
    by_cases c : S 4 i = x
    · simp only [c, tA_e, tA_l, tW0_e, tW0_l, nN_al, nN_la, nN_ad, nN_lm, nN_ml, nN_le, nN_lt, nN_eq, nN_lel, nN_lle, nN_ltl, nN_llt, nN_eql, nN_rm, nN_dv, ob_s, ob_2, ob_3, ite_true, ite_false, not_true_eq_false, not_false_eq_true, ite_self, eq_self, Nat.add_zero] at ih ⊢
      exact ih
    · simp only [c, tA_e, tA_l, tW0_e, tW0_l, nN_al, nN_la, nN_ad, nN_lm, nN_ml, nN_le, nN_lt, nN_eq, nN_lel, nN_lle, nN_ltl, nN_llt, nN_eql, nN_rm, nN_dv, ob_s, ob_2, ob_3, ite_true, ite_false, not_true_eq_false, not_false_eq_true, ite_self, eq_self, Nat.add_zero] at ih ⊢
      exact ih
theorem PR.guests (h : PR v nh nd st V a b n m S t0 t0' t t') {x : Int32} : tX6_guests a v x t = some (nI (gs (S 4) x nd)) := by
  have h6 := h.h6
  unfold tX6_guests
  have := h.gL (x := x) nd 0 4000 (by omega) (by omega)
  simp only [gs] at this
  rw [show (0 : Int32) = nI 0 from rfl, this]
  rfl
theorem PR.iL (h : PR v nh nd st V a b n m S t0 t0' t t') {x : Int32} : ∀ (k i f : Nat), i + k = nd → k < f → tX10_inHouse_L5 f (nI b) x (nI (gs (S 4) x i)) (nI i) t' = some (nI (gs (S 4) x nd)) := by
  have h6 := h.h6
  have hb := h.b1
  intro k
  induction k with
  | zero =>
    intro i f hi hf
    obtain ⟨f, rfl⟩ : ∃ g, f = g + 1 := ⟨f - 1, by omega⟩
    obtain rfl : i = nd := by omega
    rw [tX10_inHouse_L5]
    simp (disch := omega) only [tA_e, tA_l, tW0_e, tW0_l, nN_al, nN_la, nN_ad, nN_lm, nN_ml, nN_le, nN_lt, nN_eq, nN_lel, nN_lle, nN_ltl, nN_llt, nN_eql, nN_rm, nN_dv, ob_s, ob_2, ob_3, ite_true, ite_false, not_true_eq_false, not_false_eq_true, ite_self, eq_self, Nat.add_zero, h.days, Nat.le_refl]
  | succ k ih =>
    intro i f hi hf
    obtain ⟨f, rfl⟩ : ∃ g, f = g + 1 := ⟨f - 1, by omega⟩
    have c1 : ¬ nd ≤ i := by omega
    have hg := gs_lt (S 4) x i
    rw [tX10_inHouse_L5]
    simp (disch := omega) only [tA_e, tA_l, tW0_e, tW0_l, nN_al, nN_la, nN_ad, nN_lm, nN_ml, nN_le, nN_lt, nN_eq, nN_lel, nN_lle, nN_ltl, nN_llt, nN_eql, nN_rm, nN_dv, ob_s, ob_2, ob_3, ite_true, ite_false, not_true_eq_false, not_false_eq_true, ite_self, eq_self, Nat.add_zero, h.days, c1, h.m4, nN_shl]
    have ih := ih (i + 1) f (by omega) (by omega)
    rw [gs] at ih
    by_cases c : S 4 i = x
    · simp only [c, tA_e, tA_l, tW0_e, tW0_l, nN_al, nN_la, nN_ad, nN_lm, nN_ml, nN_le, nN_lt, nN_eq, nN_lel, nN_lle, nN_ltl, nN_llt, nN_eql, nN_rm, nN_dv, ob_s, ob_2, ob_3, ite_true, ite_false, not_true_eq_false, not_false_eq_true, ite_self, eq_self, Nat.add_zero, nN_or, or_pw hg] at ih ⊢
      exact ih
    · simp only [c, tA_e, tA_l, tW0_e, tW0_l, nN_al, nN_la, nN_ad, nN_lm, nN_ml, nN_le, nN_lt, nN_eq, nN_lel, nN_lle, nN_ltl, nN_llt, nN_eql, nN_rm, nN_dv, ob_s, ob_2, ob_3, ite_true, ite_false, not_true_eq_false, not_false_eq_true, ite_self, eq_self, Nat.add_zero, Int32.or_zero, Nat.add_zero] at ih ⊢
      exact ih
theorem PR.inHouse (h : PR v nh nd st V a b n m S t0 t0' t t') {x : Int32} : tX10_inHouse (nI b) x t' = some (nI (gs (S 4) x nd)) := by
  have h6 := h.h6
  unfold tX10_inHouse
  have := h.iL (x := x) nd 0 4000 (by omega) (by omega)
  simp only [gs] at this
  rw [show (0 : Int32) = nI 0 from rfl, this]
  rfl
/-- the free beds -/
def fb (V : Nat → Nat → Nat) (f : Nat → Int32) (x : Int32) (s : Int32) : Nat → Int32
  | 0 => s
  | k + 1 => fb V f x s k - (if f k = x then nI (wd V k) else 0)
theorem PR.fL (h : PR v nh nd st V a b n m S t0 t0' t t') {x s : Int32} : ∀ (k i f : Nat), i + k = nd → k < f → tX6_freeBeds_L10 f a v x (fb V (S 4) x s i) (nI i) t = some (fb V (S 4) x s nd) := by
  have h6 := h.h6
  intro k
  induction k with
  | zero =>
    intro i f hi hf
    obtain ⟨f, rfl⟩ : ∃ g, f = g + 1 := ⟨f - 1, by omega⟩
    obtain rfl : i = nd := by omega
    rw [tX6_freeBeds_L10]
    simp (disch := omega) only [tA_e, tA_l, tW0_e, tW0_l, nN_al, nN_la, nN_ad, nN_lm, nN_ml, nN_le, nN_lt, nN_eq, nN_lel, nN_lle, nN_ltl, nN_llt, nN_eql, nN_rm, nN_dv, ob_s, ob_2, ob_3, ite_true, ite_false, not_true_eq_false, not_false_eq_true, ite_self, eq_self, Nat.add_zero, h.cd, Nat.le_refl]
  | succ k ih =>
    intro i f hi hf
    obtain ⟨f, rfl⟩ : ∃ g, f = g + 1 := ⟨f - 1, by omega⟩
    have c1 : ¬ nd ≤ i := by omega
    rw [tX6_freeBeds_L10]
    simp (disch := omega) only [tA_e, tA_l, tW0_e, tW0_l, nN_al, nN_la, nN_ad, nN_lm, nN_ml, nN_le, nN_lt, nN_eq, nN_lel, nN_lle, nN_ltl, nN_llt, nN_eql, nN_rm, nN_dv, ob_s, ob_2, ob_3, ite_true, ite_false, not_true_eq_false, not_false_eq_true, ite_self, eq_self, Nat.add_zero, h.cd, c1, h.c4, h.v10]
    have ih := ih (i + 1) f (by omega) (by omega)
    rw [fb] at ih
    by_cases c : S 4 i = x
    · simp only [c, tA_e, tA_l, tW0_e, tW0_l, nN_al, nN_la, nN_ad, nN_lm, nN_ml, nN_le, nN_lt, nN_eq, nN_lel, nN_lle, nN_ltl, nN_llt, nN_eql, nN_rm, nN_dv, ob_s, ob_2, ob_3, ite_true, ite_false, not_true_eq_false, not_false_eq_true, ite_self, eq_self, Nat.add_zero] at ih ⊢
      exact ih
    · simp only [c, tA_e, tA_l, tW0_e, tW0_l, nN_al, nN_la, nN_ad, nN_lm, nN_ml, nN_le, nN_lt, nN_eq, nN_lel, nN_lle, nN_ltl, nN_llt, nN_eql, nN_rm, nN_dv, ob_s, ob_2, ob_3, ite_true, ite_false, not_true_eq_false, not_false_eq_true, ite_self, eq_self, Nat.add_zero, Int32.sub_zero] at ih ⊢
      exact ih
theorem PR.freeBeds (h : PR v nh nd st V a b n m S t0 t0' t t') {x : Nat} (hx : x < nh) : tX6_freeBeds a v (nI x) t = some (fb V (S 4) (nI x) (S 1 x) nd) := by
  have h6 := h.h6
  have h4 := h.h4
  unfold tX6_freeBeds
  have := h.fL (x := nI x) (s := S 1 x) nd 0 4000 (by omega) (by omega)
  simp only [fb] at this
  simp (disch := omega) only [tA_e, tA_l, tW0_e, tW0_l, nN_al, nN_la, nN_ad, nN_lm, nN_ml, nN_le, nN_lt, nN_eq, nN_lel, nN_lle, nN_ltl, nN_llt, nN_eql, nN_rm, nN_dv, ob_s, ob_2, ob_3, ite_true, ite_false, not_true_eq_false, not_false_eq_true, ite_self, eq_self, Nat.add_zero, h.c1]
  rw [show (0 : Int32) = nI 0 from rfl, this]
  rfl
theorem PR.oL (h : PR v nh nd st V a b n m S t0 t0' t t') {x s : Int32} : ∀ (k i f : Nat), i + k = nd → k < f → tX10_freeOf_L14 f (nI b) x (fb V (S 4) x s i) (nI i) t' = some (fb V (S 4) x s nd) := by
  have h6 := h.h6
  have hb := h.b1
  intro k
  induction k with
  | zero =>
    intro i f hi hf
    obtain ⟨f, rfl⟩ : ∃ g, f = g + 1 := ⟨f - 1, by omega⟩
    obtain rfl : i = nd := by omega
    rw [tX10_freeOf_L14]
    simp (disch := omega) only [tA_e, tA_l, tW0_e, tW0_l, nN_al, nN_la, nN_ad, nN_lm, nN_ml, nN_le, nN_lt, nN_eq, nN_lel, nN_lle, nN_ltl, nN_llt, nN_eql, nN_rm, nN_dv, ob_s, ob_2, ob_3, ite_true, ite_false, not_true_eq_false, not_false_eq_true, ite_self, eq_self, Nat.add_zero, h.days, Nat.le_refl]
  | succ k ih =>
    intro i f hi hf
    obtain ⟨f, rfl⟩ : ∃ g, f = g + 1 := ⟨f - 1, by omega⟩
    have c1 : ¬ nd ≤ i := by omega
    rw [tX10_freeOf_L14]
    simp (disch := omega) only [tA_e, tA_l, tW0_e, tW0_l, nN_al, nN_la, nN_ad, nN_lm, nN_ml, nN_le, nN_lt, nN_eq, nN_lel, nN_lle, nN_ltl, nN_llt, nN_eql, nN_rm, nN_dv, ob_s, ob_2, ob_3, ite_true, ite_false, not_true_eq_false, not_false_eq_true, ite_self, eq_self, Nat.add_zero, h.days, c1, h.m4, h.widthOf]
    have ih := ih (i + 1) f (by omega) (by omega)
    rw [fb] at ih
    by_cases c : S 4 i = x
    · simp only [c, tA_e, tA_l, tW0_e, tW0_l, nN_al, nN_la, nN_ad, nN_lm, nN_ml, nN_le, nN_lt, nN_eq, nN_lel, nN_lle, nN_ltl, nN_llt, nN_eql, nN_rm, nN_dv, ob_s, ob_2, ob_3, ite_true, ite_false, not_true_eq_false, not_false_eq_true, ite_self, eq_self, Nat.add_zero] at ih ⊢
      exact ih
    · simp only [c, tA_e, tA_l, tW0_e, tW0_l, nN_al, nN_la, nN_ad, nN_lm, nN_ml, nN_le, nN_lt, nN_eq, nN_lel, nN_lle, nN_ltl, nN_llt, nN_eql, nN_rm, nN_dv, ob_s, ob_2, ob_3, ite_true, ite_false, not_true_eq_false, not_false_eq_true, ite_self, eq_self, Nat.add_zero] at ih ⊢
      exact ih
theorem PR.freeOf (h : PR v nh nd st V a b n m S t0 t0' t t') {x : Nat} (hx : x < nh) : tX10_freeOf (nI b) (nI x) t' = some (fb V (S 4) (nI x) (S 1 x) nd) := by
  have h6 := h.h6
  have h4 := h.h4
  have hb := h.b1
  unfold tX10_freeOf
  have := h.oL (x := nI x) (s := S 1 x) nd 0 4000 (by omega) (by omega)
  simp only [fb] at this
  simp (disch := omega) only [tA_e, tA_l, tW0_e, tW0_l, nN_al, nN_la, nN_ad, nN_lm, nN_ml, nN_le, nN_lt, nN_eq, nN_lel, nN_lle, nN_ltl, nN_llt, nN_eql, nN_rm, nN_dv, ob_s, ob_2, ob_3, ite_true, ite_false, not_true_eq_false, not_false_eq_true, ite_self, eq_self, Nat.add_zero, h.m1]
  rw [show (0 : Int32) = nI 0 from rfl, this]
  rfl
/-- whether a house holds a day: 1 or 0 -/
def hol (V : Nat → Nat → Nat) (S : Nat → Nat → Int32) (nd x d : Nat) : Bool := decide (¬ fb V (S 4) (nI x) (S 1 x) nd < nI (wd V d)) && decide ((nI (gs (S 4) (nI x) nd) &&& nI (V 9 d)) = 0)
def bI (c : Bool) : Int32 := if c then 1 else 0
theorem PR.holds (h : PR v nh nd st V a b n m S t0 t0' t t') {x d : Nat} (hx : x < nh) (hd : d < nd) : tX6_holds a v (nI x) (nI d) t = some (bI (hol V S nd x d)) := by
  have h6 := h.h6
  unfold tX6_holds
  simp (disch := omega) only [tA_e, tA_l, tW0_e, tW0_l, nN_al, nN_la, nN_ad, nN_lm, nN_ml, nN_le, nN_lt, nN_eq, nN_lel, nN_lle, nN_ltl, nN_llt, nN_eql, nN_rm, nN_dv, ob_s, ob_2, ob_3, ite_true, ite_false, not_true_eq_false, not_false_eq_true, ite_self, eq_self, Nat.add_zero, h.freeBeds hx, h.v10, h.guests, h.v9]
  unfold hol bI wd
  by_cases c : fb V (S 4) (nI x) (S 1 x) nd < nI (if V 5 d = 1 then 2 else 1)
  · simp [c, ob_s, z01_0]
  · by_cases c2 : (nI (gs (S 4) (nI x) nd) &&& nI (V 9 d)) = 0
    · simp [c, c2, ob_s, z01_1]
    · simp [c, c2, ob_s, z01_0]
theorem PR.doesHold (h : PR v nh nd st V a b n m S t0 t0' t t') {x d : Nat} (hx : x < nh) (hd : d < nd) : tX10_doesHold (nI b) (nI x) (nI d) t' = some (bI (hol V S nd x d)) := by
  have h6 := h.h6
  unfold tX10_doesHold
  simp (disch := omega) only [tA_e, tA_l, tW0_e, tW0_l, nN_al, nN_la, nN_ad, nN_lm, nN_ml, nN_le, nN_lt, nN_eq, nN_lel, nN_lle, nN_ltl, nN_llt, nN_eql, nN_rm, nN_dv, ob_s, ob_2, ob_3, ite_true, ite_false, not_true_eq_false, not_false_eq_true, ite_self, eq_self, Nat.add_zero, h.freeOf hx, h.widthOf, h.inHouse, h.dayOf4]
  unfold hol bI
  by_cases c : fb V (S 4) (nI x) (S 1 x) nd < nI (wd V d)
  · simp [c, ob_s, z01_0]
  · by_cases c2 : (nI (gs (S 4) (nI x) nd) &&& nI (V 9 d)) = 0
    · simp [c, c2, ob_s, z01_1]
    · simp [c, c2, ob_s, z01_0]
theorem has_e {x k : Nat} {t : tS} (hx : x < 2147483648) (hk : k < 31) : tX9_has (nI x) (nI k) t = some (bI (x.testBit k)) := by
  unfold tX9_has
  rw [nN_bit hx hk]
  unfold bI
  cases x.testBit k <;> rfl
theorem bI_0 {c : Bool} : (bI c = 0) = (c = false) := by cases c <;> decide
theorem bI_1 {c : Bool} : (bI c = 1) = (c = true) := by cases c <;> decide
theorem tb_1 {c : Bool} : (nI c.toNat = 1) = (c = true) := by cases c <;> decide
theorem tb_0 {c : Bool} : (nI c.toNat = 0) = (c = false) := by cases c <;> decide
theorem PR.ln (h : PR v nh nd st V a b n m S t0 t0' t t') {j : Nat} (hj : j < nh) : V 3 j < 16 := by
  have h1 := (h.1.2.2.2.2.1 j hj).2.2
  have h2 := Nat.pow_le_pow_right (n := 2) (by decide) h.h4
  omega
theorem PR.hm (h : PR v nh nd st V a b n m S t0 t0' t t') {j : Nat} (hj : j < nd) : V 6 j < nh := (h.1.2.2.2.2.2.1 j hj).2.1
theorem PR.hL (h : PR v nh nd st V a b n m S t0 t0' t t') {d o : Nat} (hd : d < nd) (ho : o < nh) : ∀ (k i f f' : Nat), i + k = nh → k < f → k < f' → ∃ r, tX6_hostOf_L22 f a v (nI d) (nI o) (nI i) t = some r ∧ tX10_bedFor_L22 f' (nI b) (nI d) (nI o) (nI i) t' = some r ∧ (∀ y, r = .inr y → NN y nh) := by
  have h4 := h.h4
  have h5 := h.ln ho
  intro k
  induction k with
  | zero =>
    intro i f f' hi hf hf'
    obtain ⟨f, rfl⟩ : ∃ g, f = g + 1 := ⟨f - 1, by omega⟩
    obtain ⟨f', rfl⟩ : ∃ g, f' = g + 1 := ⟨f' - 1, by omega⟩
    obtain rfl : i = nh := by omega
    rw [tX6_hostOf_L22, tX10_bedFor_L22]
    simp (disch := omega) only [tA_e, tA_l, tW0_e, tW0_l, nN_al, nN_la, nN_ad, nN_lm, nN_ml, nN_le, nN_lt, nN_eq, nN_lel, nN_lle, nN_ltl, nN_llt, nN_eql, nN_rm, nN_dv, ob_s, ob_2, ob_3, ite_true, ite_false, not_true_eq_false, not_false_eq_true, ite_self, eq_self, Nat.add_zero, h.ch, h.houses, Nat.le_refl]
    exact ⟨_, rfl, rfl, fun y hy => by cases hy⟩
  | succ k ih =>
    intro i f f' hi hf hf'
    obtain ⟨f, rfl⟩ : ∃ g, f = g + 1 := ⟨f - 1, by omega⟩
    obtain ⟨f', rfl⟩ : ∃ g, f' = g + 1 := ⟨f' - 1, by omega⟩
    have c1 : ¬ nh ≤ i := by omega
    have hi' : i < nh := by omega
    rw [tX6_hostOf_L22, tX10_bedFor_L22]
    simp (disch := omega) only [tA_e, tA_l, tW0_e, tW0_l, nN_al, nN_la, nN_ad, nN_lm, nN_ml, nN_le, nN_lt, nN_eq, nN_lel, nN_lle, nN_ltl, nN_llt, nN_eql, nN_rm, nN_dv, ob_s, ob_2, ob_3, ite_true, ite_false, not_true_eq_false, not_false_eq_true, ite_self, eq_self, Nat.add_zero, h.ch, c1, h.houses, h.v3, h.houseOf1, has_e, nN_bit, bI_0, tb_1, h.holds hi' hd, h.doesHold hi' hd]
    have ih := ih (i + 1) f f' (by omega) (by omega) (by omega)
    cases (V 3 o).testBit i
    · simp
      exact ih
    · cases hol V S nd i d
      · simp
        exact ih
      · simp
        exact ⟨i, hi', rfl⟩
theorem PR.hostOf (h : PR v nh nd st V a b n m S t0 t0' t t') {d : Nat} (hd : d < nd) : ∃ r, tX6_hostOf a v (nI d) t = some r ∧ tX10_bedFor (nI b) (nI d) t' = some r ∧ (r = -1 ∨ NN r nh) := by
  have h4 := h.h4
  have h6 := h.h6
  have ho := h.hm hd
  obtain ⟨r, e1, e2, e3⟩ := h.hL hd ho nh 0 4000 4000 (by omega) (by omega) (by omega)
  unfold tX6_hostOf tX10_bedFor
  simp (disch := omega) only [tA_e, tA_l, tW0_e, tW0_l, nN_al, nN_la, nN_ad, nN_lm, nN_ml, nN_le, nN_lt, nN_eq, nN_lel, nN_lle, nN_ltl, nN_llt, nN_eql, nN_rm, nN_dv, ob_s, ob_2, ob_3, ite_true, ite_false, not_true_eq_false, not_false_eq_true, ite_self, eq_self, Nat.add_zero, h.v6, h.dayOf1, h.holds ho hd, h.doesHold ho hd, bI_0]
  rw [show (0 : Int32) = nI 0 from rfl, e1, e2]
  cases hol V S nd (V 6 d) d
  · cases r with
    | inl u => exact ⟨_, rfl, rfl, .inl rfl⟩
    | inr y => exact ⟨_, rfl, rfl, .inr (e3 y rfl)⟩
  · exact ⟨_, rfl, rfl, .inr ⟨_, ho, rfl⟩⟩
end
