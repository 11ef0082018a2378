/-! ===== PURE: bits, clamps, who is due, who leaves ===== -/
section
variable {v nh nd st a b n m : Nat} {V : Nat → Nat → Nat} {S : Nat → Nat → Int32} {t0 t0' t t' : tS}
/-- how many of the first k bits -/
def pcn (x : Nat) : Nat → Nat
  | 0 => 0
  | k + 1 => pcn x k + (x.testBit k).toNat
theorem pcn_hi {x : Nat} (h : x < 64) : ∀ k, pcn x (6 + k) = pcn x 6 := by
  intro k
  induction k with
  | zero => rfl
  | succ k ih =>
    show pcn x (6 + k) + (x.testBit (6 + k)).toNat = pcn x 6
    rw [ih, Nat.testBit_lt_two_pow (Nat.lt_of_lt_of_le h (by rw [show 64 = 2 ^ 6 from rfl]; exact Nat.pow_le_pow_right (by decide) (by omega)))]
    rfl
theorem pcn_le (x : Nat) : ∀ k, pcn x k ≤ k := by
  intro k
  induction k with
  | zero => exact Nat.le_refl _
  | succ k ih =>
    show pcn x k + (x.testBit k).toNat ≤ k + 1
    have := Bool.toNat_le (x.testBit k)
    omega
def pc (x : Nat) : Nat := pcn x 6
theorem bits_L {x : Nat} {t : tS} (hx : x < 2147483648) : ∀ (k i f : Nat), i + k = 30 → k < f → tX10_bits_L4 f (nI x) (nI (pcn x i)) (nI i) t = some (nI (pcn x 30)) := by
  intro k
  induction k with
  | zero =>
    intro i f hi hf
    obtain ⟨f, rfl⟩ : ∃ g, f = g + 1 := ⟨f - 1, by omega⟩
    obtain rfl : i = 30 := by omega
    rw [tX10_bits_L4]
    simp (disch := omega) only [tA_e, tA_l, tW0_e, tW0_l, nN_al, nN_la, nN_ad, nN_lm, nN_ml, nN_le, nN_lt, nN_eq, nN_lel, nN_lle, nN_ltl, nN_llt, nN_eql, nN_rm, nN_dv, ob_s, ob_2, ob_3, ite_true, ite_false, not_true_eq_false, not_false_eq_true, ite_self, eq_self, Nat.le_refl]
  | succ k ih =>
    intro i f hi hf
    obtain ⟨f, rfl⟩ : ∃ g, f = g + 1 := ⟨f - 1, by omega⟩
    have c1 : ¬ 30 ≤ i := by omega
    rw [tX10_bits_L4]
    simp (disch := omega) only [tA_e, tA_l, tW0_e, tW0_l, nN_al, nN_la, nN_ad, nN_lm, nN_ml, nN_le, nN_lt, nN_eq, nN_lel, nN_lle, nN_ltl, nN_llt, nN_eql, nN_rm, nN_dv, ob_s, ob_2, ob_3, ite_true, ite_false, not_true_eq_false, not_false_eq_true, ite_self, eq_self, c1, nN_bit]
    exact ih (i + 1) f (by omega) (by omega)
theorem bits_e {x : Nat} {t : tS} (hx : x < 64) : tX10_bits (nI x) t = some (nI (pc x)) := by
  unfold tX10_bits
  have := bits_L (x := x) (t := t) (by omega) 30 0 4000 (by omega) (by omega)
  simp only [pcn] at this
  rw [show (0 : Int32) = nI 0 from rfl, this, ob_s]
  exact congrArg (fun z => some (nI z)) (pcn_hi hx 24)
def tz : tS := (fun _ _ => 0, fun _ _ => 0, fun _ _ => 0, fun _ _ => 0, fun _ _ => 0)
theorem bc_e {x : Nat} {t : tS} (hx : x < 64) : tJ6_bitCount_0f7a4 (nI x) t = some (nI (pc x)) := by
  have : ∀ x < 64, tJ6_bitCount_0f7a4 (nI x) tz = some (nI (pc x)) := by decide
  exact this x hx
theorem pc_add {i o : Nat} (hi : i < 6) (ho : o < 2 ^ i) : pc (o + 2 ^ i) = pc o + 1 := by
  have : ∀ i < 6, ∀ o < 64, o < 2 ^ i → pc (o + 2 ^ i) = pc o + 1 := by decide
  exact this i hi o (Nat.lt_of_lt_of_le ho (by rw [show 64 = 2 ^ 6 from rfl]; exact Nat.pow_le_pow_right (by decide) (by omega))) ho
theorem pc_0 : pc 0 = 0 := by decide
theorem pc_p {o : Nat} (h : o < 64) : pc o = 0 ↔ o = 0 := by
  have : ∀ o < 64, pc o = 0 ↔ o = 0 := by decide
  exact this o h
/-- a number held between two -/
def clp (x lo hi : Int32) : Int32 := if lo ≤ x then if x ≤ hi then x else hi else lo
theorem clamp_e {x lo hi : Int32} {t : tS} (h : lo ≤ hi) : tX9_clamp x lo hi t = some (clp x lo hi) := by
  unfold tX9_clamp tJ9_min_7cf53 tJ9_max_7cf53 clp
  rw [Int32.le_iff_toInt_le] at h
  by_cases c1 : x < hi
  · have c2 : x ≤ hi := by rw [Int32.le_iff_toInt_le]; rw [Int32.lt_iff_toInt_lt] at c1; omega
    by_cases c3 : lo < x
    · have c4 : lo ≤ x := by rw [Int32.le_iff_toInt_le]; rw [Int32.lt_iff_toInt_lt] at c3; omega
      simp only [c1, c2, c3, c4, ite_true, ob_s]
    · by_cases c4 : lo ≤ x
      · have : lo = x := by
          apply Int32.toInt_inj.1
          rw [Int32.le_iff_toInt_le] at c4
          rw [Int32.lt_iff_toInt_lt] at c3
          omega
        subst this
        simp only [c1, c2, c3, c4, ite_true, ite_false, ob_s]
      · simp only [c1, c2, c3, c4, ite_true, ite_false, ob_s]
  · rw [if_neg c1, ob_s, ob_s]
    by_cases c2 : x ≤ hi
    · have : x = hi := by
        apply Int32.toInt_inj.1
        rw [Int32.le_iff_toInt_le] at c2
        rw [Int32.lt_iff_toInt_lt] at c1
        omega
      subst this
      by_cases c3 : lo < x
      · have c4 : lo ≤ x := by rw [Int32.le_iff_toInt_le]; exact h
        simp only [c2, c3, c4, ite_true, ob_s]
      · have : lo = x := by
          apply Int32.toInt_inj.1
          rw [Int32.lt_iff_toInt_lt] at c3
          omega
        subst this
        simp only [c2, c3, ite_true, ite_false, ob_s]
    · have c4 : lo ≤ x := by
        rw [Int32.le_iff_toInt_le] at c2 ⊢
        omega
      by_cases c3 : lo < hi
      · simp only [c2, c3, c4, ite_true, ite_false, ob_s]
      · have : lo = hi := by
          apply Int32.toInt_inj.1
          rw [Int32.lt_iff_toInt_lt] at c3
          omega
        subst this
        simp only [c2, c3, c4, ite_true, ite_false, ob_s]
theorem clp_m {x lo hi : Int32} : (if lo ≤ x then if x ≤ hi then some x else some hi else some lo) = some (clp x lo hi) := by
  unfold clp
  by_cases c1 : lo ≤ x
  · by_cases c2 : x ≤ hi
    · simp only [c1, c2, ite_true]
    · simp only [c1, c2, ite_true, ite_false]
  · simp only [c1, ite_false]
theorem clp_n {x : Int32} : NN (clp x 0 99) 100 := by
  unfold clp
  by_cases c1 : (0 : Int32) ≤ x
  · by_cases c2 : x ≤ 99
    · rw [if_pos c1, if_pos c2]
      rw [Int32.le_iff_toInt_le, show (0 : Int32).toInt = 0 from rfl] at c1
      rw [Int32.le_iff_toInt_le, show (99 : Int32).toInt = 99 from rfl] at c2
      refine ⟨x.toInt.toNat, by omega, ?_⟩
      apply Int32.toInt_inj.1
      rw [nN_toInt (by omega)]
      omega
    · rw [if_pos c1, if_neg c2]
      exact ⟨99, by decide, rfl⟩
  · rw [if_neg c1]
    exact ⟨0, by decide, rfl⟩
/-- whether the date of a day has come -/
def isd (V : Nat → Nat → Nat) (n o d : Nat) : Bool := if V 5 d = 2 then decide ((n % 12 + 1) % 12 = o) else decide (n % 12 = o) && (decide (¬ V 5 d = 3) || decide (n / 12 % 4 = 0))
set_option maxHeartbeats 4000000 in
theorem PR.isDate (h : PR v nh nd st V a b n m S t0 t0' t t') (hn : n < 1000000) {d o : Nat} (hd : d < nd) (ho : S 2 d = nI o) (ho2 : o < 12) : tX10_isDate (nI b) (nI d) t' = some (bI (isd V n o d)) := by
  have h6 := h.h6
  have hb := h.b1
  have hk := h.kd hd
  have q1 : n % 12 < 12 := Nat.mod_lt _ (by decide)
  have q2 : (n % 12 + 1) % 12 < 12 := Nat.mod_lt _ (by decide)
  have q3 : n / 12 ≤ n := Nat.div_le_self _ _
  have q4 : n / 12 % 4 < 4 := Nat.mod_lt _ (by decide)
  unfold tX10_isDate
  rw [h.dayOf0 hd]
  simp (disch := omega) only [tA_e, tA_l, tW0_e, tW0_l, nN_al, nN_la, nN_ad, nN_lm, nN_ml, nN_le, nN_lt, nN_eq, nN_lel, nN_lle, nN_ltl, nN_llt, nN_eql, nN_rm, nN_dv, ob_s, ob_2, ob_3, ite_true, ite_false, not_true_eq_false, not_false_eq_true, ite_self, eq_self, Nat.add_zero, h.mn, h.m2, ho]
  unfold isd bI
  by_cases c1 : V 5 d = 2
  · by_cases c2 : (n % 12 + 1) % 12 = o
    · simp (disch := omega) only [tA_e, tA_l, tW0_e, tW0_l, nN_al, nN_la, nN_ad, nN_lm, nN_ml, nN_le, nN_lt, nN_eq, nN_lel, nN_lle, nN_ltl, nN_llt, nN_eql, nN_rm, nN_dv, ob_s, ob_2, ob_3, ite_true, ite_false, not_true_eq_false, not_false_eq_true, ite_self, eq_self, decide_true, decide_false, decide_not, Bool.not_true, Bool.not_false, Bool.true_and, Bool.false_and, Bool.and_true, Bool.and_false, Bool.or_true, Bool.true_or, Bool.or_false, Bool.false_or, if_true, if_false, Bool.false_eq_true, z01_0, z01_1, eq_true c1, eq_true c2]
    · simp (disch := omega) only [tA_e, tA_l, tW0_e, tW0_l, nN_al, nN_la, nN_ad, nN_lm, nN_ml, nN_le, nN_lt, nN_eq, nN_lel, nN_lle, nN_ltl, nN_llt, nN_eql, nN_rm, nN_dv, ob_s, ob_2, ob_3, ite_true, ite_false, not_true_eq_false, not_false_eq_true, ite_self, eq_self, decide_true, decide_false, decide_not, Bool.not_true, Bool.not_false, Bool.true_and, Bool.false_and, Bool.and_true, Bool.and_false, Bool.or_true, Bool.true_or, Bool.or_false, Bool.false_or, if_true, if_false, Bool.false_eq_true, z01_0, z01_1, eq_true c1, c2]
  · by_cases c2 : n % 12 = o
    · by_cases c3 : V 5 d = 3
      · by_cases c4 : n / 12 % 4 = 0
        · simp (disch := omega) only [tA_e, tA_l, tW0_e, tW0_l, nN_al, nN_la, nN_ad, nN_lm, nN_ml, nN_le, nN_lt, nN_eq, nN_lel, nN_lle, nN_ltl, nN_llt, nN_eql, nN_rm, nN_dv, ob_s, ob_2, ob_3, ite_true, ite_false, not_true_eq_false, not_false_eq_true, ite_self, eq_self, decide_true, decide_false, decide_not, Bool.not_true, Bool.not_false, Bool.true_and, Bool.false_and, Bool.and_true, Bool.and_false, Bool.or_true, Bool.true_or, Bool.or_false, Bool.false_or, if_true, if_false, Bool.false_eq_true, z01_0, z01_1, eq_true c2, eq_true c3, eq_true c4, c1]
        · simp (disch := omega) only [tA_e, tA_l, tW0_e, tW0_l, nN_al, nN_la, nN_ad, nN_lm, nN_ml, nN_le, nN_lt, nN_eq, nN_lel, nN_lle, nN_ltl, nN_llt, nN_eql, nN_rm, nN_dv, ob_s, ob_2, ob_3, ite_true, ite_false, not_true_eq_false, not_false_eq_true, ite_self, eq_self, decide_true, decide_false, decide_not, Bool.not_true, Bool.not_false, Bool.true_and, Bool.false_and, Bool.and_true, Bool.and_false, Bool.or_true, Bool.true_or, Bool.or_false, Bool.false_or, if_true, if_false, Bool.false_eq_true, z01_0, z01_1, eq_true c2, eq_true c3, c4, c1]
      · simp (disch := omega) only [tA_e, tA_l, tW0_e, tW0_l, nN_al, nN_la, nN_ad, nN_lm, nN_ml, nN_le, nN_lt, nN_eq, nN_lel, nN_lle, nN_ltl, nN_llt, nN_eql, nN_rm, nN_dv, ob_s, ob_2, ob_3, ite_true, ite_false, not_true_eq_false, not_false_eq_true, ite_self, eq_self, decide_true, decide_false, decide_not, Bool.not_true, Bool.not_false, Bool.true_and, Bool.false_and, Bool.and_true, Bool.and_false, Bool.or_true, Bool.true_or, Bool.or_false, Bool.false_or, if_true, if_false, Bool.false_eq_true, z01_0, z01_1, c1, eq_true c2, c3]
    · simp (disch := omega) only [tA_e, tA_l, tW0_e, tW0_l, nN_al, nN_la, nN_ad, nN_lm, nN_ml, nN_le, nN_lt, nN_eq, nN_lel, nN_lle, nN_ltl, nN_llt, nN_eql, nN_rm, nN_dv, ob_s, ob_2, ob_3, ite_true, ite_false, not_true_eq_false, not_false_eq_true, ite_self, eq_self, decide_true, decide_false, decide_not, Bool.not_true, Bool.not_false, Bool.true_and, Bool.false_and, Bool.and_true, Bool.and_false, Bool.or_true, Bool.true_or, Bool.or_false, Bool.false_or, if_true, if_false, Bool.false_eq_true, z01_0, z01_1, c1, c2]
theorem early {n o : Nat} (ho : o < 12) : n % 12 = (o + 12 - 1) % 12 ↔ (n % 12 + 1) % 12 = o := by omega
set_option maxHeartbeats 4000000 in
theorem PR.isDue (h : PR v nh nd st V a b n m S t0 t0' t t') (hn : n < 1000000) {d o s : Nat} (hd : d < nd) (ho : S 2 d = nI o) (ho2 : o < 12) (hs : S 3 d = nI s) (hs2 : s < 100) : tX6_isDue a v (nI d) t = some (bI (decide (S 4 d = -1) && decide (¬ s = 0) && isd V n o d)) := by
  have h6 := h.h6
  have hk := h.kd hd
  have q1 : n % 12 < 12 := Nat.mod_lt _ (by decide)
  have q2 : (o + 12 - 1) % 12 < 12 := Nat.mod_lt _ (by decide)
  have q3 : n / 12 ≤ n := Nat.div_le_self _ _
  have q4 : n / 12 % 4 < 4 := Nat.mod_lt _ (by decide)
  unfold tX6_isDue
  simp (disch := omega) only [tA_e, tA_l, tW0_e, tW0_l, nN_al, nN_la, nN_ad, nN_lm, nN_ml, nN_le, nN_lt, nN_eq, nN_lel, nN_lle, nN_ltl, nN_llt, nN_eql, nN_rm, nN_dv, ob_s, ob_2, ob_3, ite_true, ite_false, not_true_eq_false, not_false_eq_true, ite_self, eq_self, h.c4, h.c3, h.c2, h.v5, ho, hs, nN_sl, h.cn, h.cy]
  unfold isd bI
  by_cases c0 : S 4 d = -1
  · by_cases c9 : s = 0
    · simp (disch := omega) only [tA_e, tA_l, tW0_e, tW0_l, nN_al, nN_la, nN_ad, nN_lm, nN_ml, nN_le, nN_lt, nN_eq, nN_lel, nN_lle, nN_ltl, nN_llt, nN_eql, nN_rm, nN_dv, ob_s, ob_2, ob_3, ite_true, ite_false, not_true_eq_false, not_false_eq_true, ite_self, eq_self, decide_true, decide_false, decide_not, Bool.not_true, Bool.not_false, Bool.true_and, Bool.false_and, Bool.and_true, Bool.and_false, Bool.or_true, Bool.true_or, Bool.or_false, Bool.false_or, if_true, if_false, Bool.false_eq_true, z01_0, z01_1, eq_true c0, eq_true c9]
    · by_cases c1 : V 5 d = 2
      · have e := early (n := n) ho2
        have c5 : ¬ V 5 d = 3 := by omega
        by_cases c2 : (n % 12 + 1) % 12 = o
        · have c3 := e.2 c2
          simp (disch := omega) only [tA_e, tA_l, tW0_e, tW0_l, nN_al, nN_la, nN_ad, nN_lm, nN_ml, nN_le, nN_lt, nN_eq, nN_lel, nN_lle, nN_ltl, nN_llt, nN_eql, nN_rm, nN_dv, ob_s, ob_2, ob_3, ite_true, ite_false, not_true_eq_false, not_false_eq_true, ite_self, eq_self, decide_true, decide_false, decide_not, Bool.not_true, Bool.not_false, Bool.true_and, Bool.false_and, Bool.and_true, Bool.and_false, Bool.or_true, Bool.true_or, Bool.or_false, Bool.false_or, if_true, if_false, Bool.false_eq_true, z01_0, z01_1, eq_true c0, c9, eq_true c1, eq_true c2, eq_true c3, c5]
        · have c3 : ¬ n % 12 = (o + 12 - 1) % 12 := fun z => c2 (e.1 z)
          simp (disch := omega) only [tA_e, tA_l, tW0_e, tW0_l, nN_al, nN_la, nN_ad, nN_lm, nN_ml, nN_le, nN_lt, nN_eq, nN_lel, nN_lle, nN_ltl, nN_llt, nN_eql, nN_rm, nN_dv, ob_s, ob_2, ob_3, ite_true, ite_false, not_true_eq_false, not_false_eq_true, ite_self, eq_self, decide_true, decide_false, decide_not, Bool.not_true, Bool.not_false, Bool.true_and, Bool.false_and, Bool.and_true, Bool.and_false, Bool.or_true, Bool.true_or, Bool.or_false, Bool.false_or, if_true, if_false, Bool.false_eq_true, z01_0, z01_1, eq_true c0, c9, eq_true c1, c2, c3, c5]
      · by_cases c2 : n % 12 = o
        · by_cases c3 : V 5 d = 3
          · by_cases c4 : n / 12 % 4 = 0
            · simp (disch := omega) only [tA_e, tA_l, tW0_e, tW0_l, nN_al, nN_la, nN_ad, nN_lm, nN_ml, nN_le, nN_lt, nN_eq, nN_lel, nN_lle, nN_ltl, nN_llt, nN_eql, nN_rm, nN_dv, ob_s, ob_2, ob_3, ite_true, ite_false, not_true_eq_false, not_false_eq_true, ite_self, eq_self, decide_true, decide_false, decide_not, Bool.not_true, Bool.not_false, Bool.true_and, Bool.false_and, Bool.and_true, Bool.and_false, Bool.or_true, Bool.true_or, Bool.or_false, Bool.false_or, if_true, if_false, Bool.false_eq_true, z01_0, z01_1, eq_true c0, c9, eq_true c2, eq_true c3, eq_true c4, c1]
            · simp (disch := omega) only [tA_e, tA_l, tW0_e, tW0_l, nN_al, nN_la, nN_ad, nN_lm, nN_ml, nN_le, nN_lt, nN_eq, nN_lel, nN_lle, nN_ltl, nN_llt, nN_eql, nN_rm, nN_dv, ob_s, ob_2, ob_3, ite_true, ite_false, not_true_eq_false, not_false_eq_true, ite_self, eq_self, decide_true, decide_false, decide_not, Bool.not_true, Bool.not_false, Bool.true_and, Bool.false_and, Bool.and_true, Bool.and_false, Bool.or_true, Bool.true_or, Bool.or_false, Bool.false_or, if_true, if_false, Bool.false_eq_true, z01_0, z01_1, eq_true c0, c9, eq_true c2, eq_true c3, c4, c1]
          · simp (disch := omega) only [tA_e, tA_l, tW0_e, tW0_l, nN_al, nN_la, nN_ad, nN_lm, nN_ml, nN_le, nN_lt, nN_eq, nN_lel, nN_lle, nN_ltl, nN_llt, nN_eql, nN_rm, nN_dv, ob_s, ob_2, ob_3, ite_true, ite_false, not_true_eq_false, not_false_eq_true, ite_self, eq_self, decide_true, decide_false, decide_not, Bool.not_true, Bool.not_false, Bool.true_and, Bool.false_and, Bool.and_true, Bool.and_false, Bool.or_true, Bool.true_or, Bool.or_false, Bool.false_or, if_true, if_false, Bool.false_eq_true, z01_0, z01_1, eq_true c0, c9, c1, eq_true c2, c3]
        · by_cases c3 : V 5 d = 3
          · by_cases c4 : n / 12 % 4 = 0
            · simp (disch := omega) only [tA_e, tA_l, tW0_e, tW0_l, nN_al, nN_la, nN_ad, nN_lm, nN_ml, nN_le, nN_lt, nN_eq, nN_lel, nN_lle, nN_ltl, nN_llt, nN_eql, nN_rm, nN_dv, ob_s, ob_2, ob_3, ite_true, ite_false, not_true_eq_false, not_false_eq_true, ite_self, eq_self, decide_true, decide_false, decide_not, Bool.not_true, Bool.not_false, Bool.true_and, Bool.false_and, Bool.and_true, Bool.and_false, Bool.or_true, Bool.true_or, Bool.or_false, Bool.false_or, if_true, if_false, Bool.false_eq_true, z01_0, z01_1, eq_true c0, c9, c2, eq_true c3, eq_true c4, c1]
            · simp (disch := omega) only [tA_e, tA_l, tW0_e, tW0_l, nN_al, nN_la, nN_ad, nN_lm, nN_ml, nN_le, nN_lt, nN_eq, nN_lel, nN_lle, nN_ltl, nN_llt, nN_eql, nN_rm, nN_dv, ob_s, ob_2, ob_3, ite_true, ite_false, not_true_eq_false, not_false_eq_true, ite_self, eq_self, decide_true, decide_false, decide_not, Bool.not_true, Bool.not_false, Bool.true_and, Bool.false_and, Bool.and_true, Bool.and_false, Bool.or_true, Bool.true_or, Bool.or_false, Bool.false_or, if_true, if_false, Bool.false_eq_true, z01_0, z01_1, eq_true c0, c9, c2, eq_true c3, c4, c1]
          · simp (disch := omega) only [tA_e, tA_l, tW0_e, tW0_l, nN_al, nN_la, nN_ad, nN_lm, nN_ml, nN_le, nN_lt, nN_eq, nN_lel, nN_lle, nN_ltl, nN_llt, nN_eql, nN_rm, nN_dv, ob_s, ob_2, ob_3, ite_true, ite_false, not_true_eq_false, not_false_eq_true, ite_self, eq_self, decide_true, decide_false, decide_not, Bool.not_true, Bool.not_false, Bool.true_and, Bool.false_and, Bool.and_true, Bool.and_false, Bool.or_true, Bool.true_or, Bool.or_false, Bool.false_or, if_true, if_false, Bool.false_eq_true, z01_0, z01_1, eq_true c0, c9, c1, c2, c3]
  · simp (disch := omega) only [tA_e, tA_l, tW0_e, tW0_l, nN_al, nN_la, nN_ad, nN_lm, nN_ml, nN_le, nN_lt, nN_eq, nN_lel, nN_lle, nN_ltl, nN_llt, nN_eql, nN_rm, nN_dv, ob_s, ob_2, ob_3, ite_true, ite_false, not_true_eq_false, not_false_eq_true, ite_self, eq_self, decide_true, decide_false, decide_not, Bool.not_true, Bool.not_false, Bool.true_and, Bool.false_and, Bool.and_true, Bool.and_false, Bool.or_true, Bool.true_or, Bool.or_false, Bool.false_or, if_true, if_false, Bool.false_eq_true, z01_0, z01_1, c0]
/-- a day leaves -/
def lv (S : Nat → Nat → Int32) (d : Nat) : Nat → Nat → Int32 := up2 (up2 S 4 d (-1)) 5 d 0
theorem PR.leave (h : PR v nh nd st V a b n m S t0 t0' t t') {d : Nat} (hd : d < nd) : tX6_leave a (nI d) t = some (uA (uA t (a + 4) d (-1)) (a + 5) d 0) ∧ tX10_leaves (nI b) (nI d) t' = some (uA (uA t' 234 (b + 6 + d) (-1)) 234 (b + 12 + d) 0) ∧ PR v nh nd st V a b n m (lv S d) t0 t0' (uA (uA t (a + 4) d (-1)) (a + 5) d 0) (uA (uA t' 234 (b + 6 + d) (-1)) 234 (b + 12 + d) 0) := by
  have h6 := h.h6
  have hb := h.b1
  refine ⟨?_, ?_, (h.w4 hd).w5 hd⟩
  · unfold tX6_leave
    simp (disch := omega) only [tA_e, tA_l, tW0_e, tW0_l, nN_al, nN_la, nN_ad, nN_lm, nN_ml, nN_le, nN_lt, nN_eq, nN_lel, nN_lle, nN_ltl, nN_llt, nN_eql, nN_rm, nN_dv, ob_s, ob_2, ob_3, ite_true, ite_false, not_true_eq_false, not_false_eq_true, ite_self, eq_self]
  · unfold tX10_leaves
    simp (disch := omega) only [tA_e, tA_l, tW0_e, tW0_l, nN_al, nN_la, nN_ad, nN_lm, nN_ml, nN_le, nN_lt, nN_eq, nN_lel, nN_lle, nN_ltl, nN_llt, nN_eql, nN_rm, nN_dv, ob_s, ob_2, ob_3, ite_true, ite_false, not_true_eq_false, not_false_eq_true, ite_self, eq_self]
theorem NN.m1 {x : Int32} {k : Nat} (hk : k < 1000000) (h : x = -1 ∨ NN x k) : (x < 0 ↔ x = -1) ∧ (0 ≤ x ↔ ¬ x = -1) := by
  rcases h with rfl | ⟨j, hj, rfl⟩
  · exact ⟨⟨fun _ => rfl, fun _ => by decide⟩, ⟨fun z => absurd z (by decide), fun z => absurd rfl z⟩⟩
  · have e1 := nN_ge0 (a := j) (by omega)
    have e2 := nN_ne1 (a := j) (by omega)
    have e3 : (0 : Int32) ≤ nI j := (nN_le (a := 0) (by decide) (by omega)).2 (Nat.zero_le _)
    exact ⟨⟨fun z => absurd z e1, fun z => absurd z e2⟩, ⟨fun _ => e2, fun _ => e3⟩⟩
end
