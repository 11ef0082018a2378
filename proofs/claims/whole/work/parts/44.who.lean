/-! ===== PURE: through, who, look ===== -/
section
variable {v nh nd st a b n m : Nat} {V : Nat → Nat → Nat} {S : Nat → Nat → Int32} {t0 t0' t t' : tS}
/-- those that lend to one of a set -/
def acl (f : Nat → Nat) (s : Nat) : Nat → Nat
  | 0 => 0
  | k + 1 => acl f s k ||| (if s.testBit k then f k else 0)
def thr (f : Nat → Nat) (nh o : Nat) : Nat → Nat → Nat → Option Nat
  | 0, _, _ => none
  | k + 1, s, i => if s.testBit o then some i else thr f nh o k (s ||| acl f s nh) (i + 1)
theorem acl_lt {f : Nat → Nat} {s : Nat} : ∀ k, (∀ j, j < k → f j < 16) → acl f s k < 16 := by
  intro k
  induction k with
  | zero => intro _; exact (by decide : 0 < 16)
  | succ k ih =>
    intro h
    unfold acl
    have h1 := ih (fun j hj => h j (by omega))
    have h2 := h k (by omega)
    apply or_lt (k := 4) h1
    split
    · exact h2
    · decide
theorem acl_cg {f g : Nat → Nat} {s : Nat} : ∀ k, (∀ j, j < k → f j = g j) → acl f s k = acl g s k := by
  intro k
  induction k with
  | zero => intro _; rfl
  | succ k ih =>
    intro h
    unfold acl
    rw [ih (fun j hj => h j (by omega)), h k (by omega)]
theorem thr_cg {f g : Nat → Nat} {nh o : Nat} (h : ∀ j, j < nh → f j = g j) : ∀ k s i, thr f nh o k s i = thr g nh o k s i := by
  intro k
  induction k with
  | zero => intro _ _; rfl
  | succ k ih =>
    intro s i
    unfold thr
    rw [acl_cg nh h, ih]
theorem thr_4 {f : Nat → Nat} {nh h o : Nat} (h4 : nh ≤ 4) (hf : ∀ j, j < nh → f j < 2 ^ nh) (hh : h < nh) (ho : o < nh) : thr f nh o nh (2 ^ h) 0 = thr f nh o 4 (2 ^ h) 0 := by
  by_cases c : nh = 4
  · rw [c]
  · have d1 : ∀ a < 2, ∀ h < 1, ∀ o < 1, thr (fun j => [a].getD j 0) 1 o 1 (2 ^ h) 0 = thr (fun j => [a].getD j 0) 1 o 4 (2 ^ h) 0 := by decide +kernel
    have d2 : ∀ a < 4, ∀ b < 4, ∀ h < 2, ∀ o < 2, thr (fun j => [a, b].getD j 0) 2 o 2 (2 ^ h) 0 = thr (fun j => [a, b].getD j 0) 2 o 4 (2 ^ h) 0 := by decide +kernel
    have d3 : ∀ a < 8, ∀ b < 8, ∀ c < 8, ∀ h < 3, ∀ o < 3, thr (fun j => [a, b, c].getD j 0) 3 o 3 (2 ^ h) 0 = thr (fun j => [a, b, c].getD j 0) 3 o 4 (2 ^ h) 0 := by decide +kernel
    obtain rfl | rfl | rfl : nh = 1 ∨ nh = 2 ∨ nh = 3 := by omega
    · have e : ∀ j, j < 1 → f j = (fun j => [f 0].getD j 0) j := by
        intro j hj
        obtain rfl : j = 0 := by omega
        rfl
      rw [thr_cg e, thr_cg e]
      exact d1 _ (hf 0 (by omega)) h hh o ho
    · have e : ∀ j, j < 2 → f j = (fun j => [f 0, f 1].getD j 0) j := by
        intro j hj
        obtain rfl | rfl : j = 0 ∨ j = 1 := by omega
        · rfl
        · rfl
      rw [thr_cg e, thr_cg e]
      exact d2 _ (hf 0 (by omega)) _ (hf 1 (by omega)) h hh o ho
    · have e : ∀ j, j < 3 → f j = (fun j => [f 0, f 1, f 2].getD j 0) j := by
        intro j hj
        obtain rfl | rfl | rfl : j = 0 ∨ j = 1 ∨ j = 2 := by omega
        · rfl
        · rfl
        · rfl
      rw [thr_cg e, thr_cg e]
      exact d3 _ (hf 0 (by omega)) _ (hf 1 (by omega)) _ (hf 2 (by omega)) h hh o ho
theorem PN.leL (h : PN v nh nd st V n m S t t') {s : Nat} (hs : s < 16) : ∀ (k i f f' : Nat) (x y z : Int32), i + k = nh → k < f → k < f' → tX9_lendersOf_L4 f (nI s) (nI (acl (V 3) s i)) (nI i) t = some (nI (acl (V 3) s nh)) ∧ tX10_through_L56 f' x (nI s) z (nI (s ||| acl (V 3) s i)) (nI i) t' = some (nI (s ||| acl (V 3) s nh)) := by
  have h4 := h.1.h4
  intro k
  induction k with
  | zero =>
    intro i f f' x y z hi hf hf'
    obtain ⟨f, rfl⟩ : ∃ g, f = g + 1 := ⟨f - 1, by omega⟩
    obtain ⟨f', rfl⟩ : ∃ g, f' = g + 1 := ⟨f' - 1, by omega⟩
    obtain rfl : i = nh := by omega
    rw [tX9_lendersOf_L4, tX10_through_L56]
    simp (disch := omega) only [tA_e, tA_l, tW0_e, tW0_l, nN_al, nN_la, nN_ad, nN_lm, nN_ml, nN_le, nN_lt, nN_eq, nN_lel, nN_lle, nN_ltl, nN_llt, nN_eql, nN_rm, nN_dv, ob_s, ob_2, ob_3, ite_true, ite_false, not_true_eq_false, not_false_eq_true, ite_self, eq_self, Nat.add_zero, h.2.2, h.1.ch, h.1.houses, Nat.le_refl, and_self]
  | succ k ih =>
    intro i f f' x y z hi hf hf'
    obtain ⟨f, rfl⟩ : ∃ g, f = g + 1 := ⟨f - 1, by omega⟩
    obtain ⟨f', rfl⟩ : ∃ g, f' = g + 1 := ⟨f' - 1, by omega⟩
    have c1 : ¬ nh ≤ i := by omega
    have hj : i < nh := by omega
    have ih := ih (i + 1) f f' x y z (by omega) (by omega) (by omega)
    rw [acl] at ih
    rw [tX9_lendersOf_L4, tX10_through_L56]
    simp (disch := omega) only [tA_e, tA_l, tW0_e, tW0_l, nN_al, nN_la, nN_ad, nN_lm, nN_ml, nN_le, nN_lt, nN_eq, nN_lel, nN_lle, nN_ltl, nN_llt, nN_eql, nN_rm, nN_dv, ob_s, ob_2, ob_3, ite_true, ite_false, not_true_eq_false, not_false_eq_true, ite_self, eq_self, Nat.add_zero, h.2.2, h.1.ch, h.1.houses, c1, has_e, nN_bit, bI_0, tb_1, h.1.v3 hj, h.1.houseOf1 hj]
    cases hb : s.testBit i
    · simp only [tA_e, tA_l, tW0_e, tW0_l, nN_al, nN_la, nN_ad, nN_lm, nN_ml, nN_le, nN_lt, nN_eq, nN_lel, nN_lle, nN_ltl, nN_llt, nN_eql, nN_rm, nN_dv, ob_s, ob_2, ob_3, ite_true, ite_false, not_true_eq_false, not_false_eq_true, ite_self, eq_self, Nat.add_zero, decide_true, decide_false, decide_not, Bool.not_true, Bool.not_false, Bool.true_and, Bool.false_and, Bool.and_true, Bool.and_false, Bool.or_true, Bool.true_or, Bool.or_false, Bool.false_or, if_true, if_false, Bool.false_eq_true, z01_0, z01_1, hb, Int32.or_zero, Nat.or_zero] at ih ⊢
      exact ih
    · simp only [tA_e, tA_l, tW0_e, tW0_l, nN_al, nN_la, nN_ad, nN_lm, nN_ml, nN_le, nN_lt, nN_eq, nN_lel, nN_lle, nN_ltl, nN_llt, nN_eql, nN_rm, nN_dv, ob_s, ob_2, ob_3, ite_true, ite_false, not_true_eq_false, not_false_eq_true, ite_self, eq_self, Nat.add_zero, decide_true, decide_false, decide_not, Bool.not_true, Bool.not_false, Bool.true_and, Bool.false_and, Bool.and_true, Bool.and_false, Bool.or_true, Bool.true_or, Bool.or_false, Bool.false_or, if_true, if_false, Bool.false_eq_true, z01_0, z01_1, hb, Bool.true_eq_false, nN_or, ← Nat.or_assoc] at ih ⊢
      exact ih
theorem PN.thL (h : PN v nh nd st V n m S t t') {o : Nat} (ho : o < nh) : ∀ (k i f s : Nat), s < 16 → i + k = nh → k < f → tX9_through_L25 f (nI o) (nI s) (nI i) t = some (match thr (V 3) nh o k s i with | none => .inl () | some r => .inr (nI r)) := by
  have h4 := h.1.h4
  intro k
  induction k with
  | zero =>
    intro i f s hs hi hf
    obtain ⟨f, rfl⟩ : ∃ g, f = g + 1 := ⟨f - 1, by omega⟩
    obtain rfl : i = nh := by omega
    rw [tX9_through_L25]
    simp (disch := omega) only [tA_e, tA_l, tW0_e, tW0_l, nN_al, nN_la, nN_ad, nN_lm, nN_ml, nN_le, nN_lt, nN_eq, nN_lel, nN_lle, nN_ltl, nN_llt, nN_eql, nN_rm, nN_dv, ob_s, ob_2, ob_3, ite_true, ite_false, not_true_eq_false, not_false_eq_true, ite_self, eq_self, Nat.add_zero, h.2.2, h.1.ch, Nat.le_refl, thr]
  | succ k ih =>
    intro i f s hs hi hf
    obtain ⟨f, rfl⟩ : ∃ g, f = g + 1 := ⟨f - 1, by omega⟩
    have c1 : ¬ nh ≤ i := by omega
    have a1 := (h.leL hs nh 0 4000 4000 0 0 0 (by omega) (by omega) (by omega)).1
    rw [acl, show nI 0 = (0 : Int32) from rfl] at a1
    have a2 : acl (V 3) s nh < 16 := acl_lt nh (fun j hj => h.1.ln hj)
    have a3 : s ||| acl (V 3) s nh < 16 := or_lt (k := 4) hs a2
    rw [tX9_through_L25]
    unfold tX9_lendersOf
    simp (disch := omega) only [tA_e, tA_l, tW0_e, tW0_l, nN_al, nN_la, nN_ad, nN_lm, nN_ml, nN_le, nN_lt, nN_eq, nN_lel, nN_lle, nN_ltl, nN_llt, nN_eql, nN_rm, nN_dv, ob_s, ob_2, ob_3, ite_true, ite_false, not_true_eq_false, not_false_eq_true, ite_self, eq_self, Nat.add_zero, h.2.2, h.1.ch, c1, has_e, bI_0, a1, nN_or]
    rw [thr]
    cases s.testBit o
    · simp only [tA_e, tA_l, tW0_e, tW0_l, nN_al, nN_la, nN_ad, nN_lm, nN_ml, nN_le, nN_lt, nN_eq, nN_lel, nN_lle, nN_ltl, nN_llt, nN_eql, nN_rm, nN_dv, ob_s, ob_2, ob_3, ite_true, ite_false, not_true_eq_false, not_false_eq_true, ite_self, eq_self, Nat.add_zero, decide_true, decide_false, decide_not, Bool.not_true, Bool.not_false, Bool.true_and, Bool.false_and, Bool.and_true, Bool.and_false, Bool.or_true, Bool.true_or, Bool.or_false, Bool.false_or, if_true, if_false, Bool.false_eq_true, z01_0, z01_1]
      exact ih (i + 1) f _ a3 (by omega) (by omega)
    · simp only [tA_e, tA_l, tW0_e, tW0_l, nN_al, nN_la, nN_ad, nN_lm, nN_ml, nN_le, nN_lt, nN_eq, nN_lel, nN_lle, nN_ltl, nN_llt, nN_eql, nN_rm, nN_dv, ob_s, ob_2, ob_3, ite_true, ite_false, not_true_eq_false, not_false_eq_true, ite_self, eq_self, Nat.add_zero, decide_true, decide_false, decide_not, Bool.not_true, Bool.not_false, Bool.true_and, Bool.false_and, Bool.and_true, Bool.and_false, Bool.or_true, Bool.true_or, Bool.or_false, Bool.false_or, if_true, if_false, Bool.false_eq_true, z01_0, z01_1, Bool.true_eq_false]
theorem PN.thM (h : PN v nh nd st V n m S t t') {o : Nat} (ho : o < nh) : ∀ (k i f s : Nat), s < 16 → i + k = 4 → k < f → tX10_through_L24 f (nI o) (nI s) (nI i) t' = some (match thr (V 3) nh o k s i with | none => .inl () | some r => .inr (nI r, t')) := by
  have h4 := h.1.h4
  have hi2 : inr (nI o) nh = true := by rw [inr_n (by omega)]; exact decide_eq_true ho
  intro k
  induction k with
  | zero =>
    intro i f s hs hi hf
    obtain ⟨f, rfl⟩ : ∃ g, f = g + 1 := ⟨f - 1, by omega⟩
    obtain rfl : i = 4 := by omega
    rw [tX10_through_L24]
    simp (disch := omega) only [tA_e, tA_l, tW0_e, tW0_l, nN_al, nN_la, nN_ad, nN_lm, nN_ml, nN_le, nN_lt, nN_eq, nN_lel, nN_lle, nN_ltl, nN_llt, nN_eql, nN_rm, nN_dv, ob_s, ob_2, ob_3, ite_true, ite_false, not_true_eq_false, not_false_eq_true, ite_self, eq_self, Nat.add_zero, Nat.le_refl, thr]
  | succ k ih =>
    intro i f s hs hi hf
    obtain ⟨f, rfl⟩ : ∃ g, f = g + 1 := ⟨f - 1, by omega⟩
    have c1 : ¬ 4 ≤ i := by omega
    have a1 := (h.leL hs nh 0 4000 4000 (nI o) 0 (nI i) (by omega) (by omega) (by omega)).2
    rw [acl, Nat.or_zero, show nI 0 = (0 : Int32) from rfl] at a1
    have a2 : acl (V 3) s nh < 16 := acl_lt nh (fun j hj => h.1.ln hj)
    have a3 : s ||| acl (V 3) s nh < 16 := or_lt (k := 4) hs a2
    rw [tX10_through_L24]
    simp (disch := omega) only [tA_e, tA_l, tW0_e, tW0_l, nN_al, nN_la, nN_ad, nN_lm, nN_ml, nN_le, nN_lt, nN_eq, nN_lel, nN_lle, nN_ltl, nN_llt, nN_eql, nN_rm, nN_dv, ob_s, ob_2, ob_3, ite_true, ite_false, not_true_eq_false, not_false_eq_true, ite_self, eq_self, Nat.add_zero, decide_true, decide_false, decide_not, Bool.not_true, Bool.not_false, Bool.true_and, Bool.false_and, Bool.and_true, Bool.and_false, Bool.or_true, Bool.true_or, Bool.or_false, Bool.false_or, if_true, if_false, Bool.false_eq_true, z01_0, z01_1, c1, nN_bit, tb_1, h.isHouse', hi2, bI_0, Bool.true_eq_false, a1]
    rw [thr]
    cases s.testBit o
    · simp only [tA_e, tA_l, tW0_e, tW0_l, nN_al, nN_la, nN_ad, nN_lm, nN_ml, nN_le, nN_lt, nN_eq, nN_lel, nN_lle, nN_ltl, nN_llt, nN_eql, nN_rm, nN_dv, ob_s, ob_2, ob_3, ite_true, ite_false, not_true_eq_false, not_false_eq_true, ite_self, eq_self, Nat.add_zero, decide_true, decide_false, decide_not, Bool.not_true, Bool.not_false, Bool.true_and, Bool.false_and, Bool.and_true, Bool.and_false, Bool.or_true, Bool.true_or, Bool.or_false, Bool.false_or, if_true, if_false, Bool.false_eq_true, z01_0, z01_1]
      exact ih (i + 1) f _ a3 (by omega) (by omega)
    · simp only [tA_e, tA_l, tW0_e, tW0_l, nN_al, nN_la, nN_ad, nN_lm, nN_ml, nN_le, nN_lt, nN_eq, nN_lel, nN_lle, nN_ltl, nN_llt, nN_eql, nN_rm, nN_dv, ob_s, ob_2, ob_3, ite_true, ite_false, not_true_eq_false, not_false_eq_true, ite_self, eq_self, Nat.add_zero, decide_true, decide_false, decide_not, Bool.not_true, Bool.not_false, Bool.true_and, Bool.false_and, Bool.and_true, Bool.and_false, Bool.or_true, Bool.true_or, Bool.or_false, Bool.false_or, if_true, if_false, Bool.false_eq_true, z01_0, z01_1, Bool.true_eq_false]
theorem q_through {N : Nat} (h : QR v nh nd st V N t t') (x y : Int32) : QB (tX9_through x y t) (tX10_through x y t') t' := by
  obtain ⟨n, m, S, e1, e4, e5, e6, e7⟩ := h.now
  have h4 := h.2.2.1.1.1
  have nx : ∀ (s : Int32), inr y nh = false → tX10_through_L24 4000 y s 0 (uI t' 218 0 0) = some (.inl ()) := by
    intro s hy
    rw [show 4000 = 3999 + 1 from rfl, tX10_through_L24]
    have c1 : ¬ (4 : Int32) ≤ 0 := by decide
    simp only [tA_e, tA_l, tW0_e, tW0_l, nN_al, nN_la, nN_ad, nN_lm, nN_ml, nN_le, nN_lt, nN_eq, nN_lel, nN_lle, nN_ltl, nN_llt, nN_eql, nN_rm, nN_dv, ob_s, ob_2, ob_3, ite_true, ite_false, not_true_eq_false, not_false_eq_true, ite_self, eq_self, Nat.add_zero, c1, e1.isHouse', hy, bI_0]
  unfold tX9_through tX10_through
  simp only [ob_s, e1.isHouse, e1.isHouse', bI_0]
  cases hi : inr x nh
  · cases hy : inr y nh
    · simp only [tA_e, tA_l, tW0_e, tW0_l, nN_al, nN_la, nN_ad, nN_lm, nN_ml, nN_le, nN_lt, nN_eq, nN_lel, nN_lle, nN_ltl, nN_llt, nN_eql, nN_rm, nN_dv, ob_s, ob_2, ob_3, ite_true, ite_false, not_true_eq_false, not_false_eq_true, ite_self, eq_self, Nat.add_zero, decide_true, decide_false, decide_not, Bool.not_true, Bool.not_false, Bool.true_and, Bool.false_and, Bool.and_true, Bool.and_false, Bool.or_true, Bool.true_or, Bool.or_false, Bool.false_or, if_true, if_false, Bool.false_eq_true, z01_0, z01_1, nx _ hy]
      exact QB.mk
    · obtain ⟨o, ho, rfl⟩ := inr_t hy
      have z : ∀ k i, thr (V 3) nh o k 0 i = none := by
        have z0 : acl (V 3) 0 nh = 0 := by
          have : ∀ k, acl (V 3) 0 k = 0 := by
            intro k
            induction k with
            | zero => rfl
            | succ k ih =>
              unfold acl
              rw [ih]
              simp
          exact this nh
        intro k
        induction k with
        | zero => intro _; rfl
        | succ k ih =>
          intro i
          unfold thr
          simp only [z0, Nat.zero_testBit, Bool.false_eq_true, if_false, Nat.or_zero]
          exact ih _
      have g := e1.thM ho 4 0 4000 0 (by omega) (by omega) (by omega)
      rw [z, show nI 0 = (0 : Int32) from rfl] at g
      simp only [tA_e, tA_l, tW0_e, tW0_l, nN_al, nN_la, nN_ad, nN_lm, nN_ml, nN_le, nN_lt, nN_eq, nN_lel, nN_lle, nN_ltl, nN_llt, nN_eql, nN_rm, nN_dv, ob_s, ob_2, ob_3, ite_true, ite_false, not_true_eq_false, not_false_eq_true, ite_self, eq_self, Nat.add_zero, decide_true, decide_false, decide_not, Bool.not_true, Bool.not_false, Bool.true_and, Bool.false_and, Bool.and_true, Bool.and_false, Bool.or_true, Bool.true_or, Bool.or_false, Bool.false_or, if_true, if_false, Bool.false_eq_true, z01_0, z01_1, g]
      exact QB.mk
  · obtain ⟨j, hj, rfl⟩ := inr_t hi
    cases hy : inr y nh
    · simp only [tA_e, tA_l, tW0_e, tW0_l, nN_al, nN_la, nN_ad, nN_lm, nN_ml, nN_le, nN_lt, nN_eq, nN_lel, nN_lle, nN_ltl, nN_llt, nN_eql, nN_rm, nN_dv, ob_s, ob_2, ob_3, ite_true, ite_false, not_true_eq_false, not_false_eq_true, ite_self, eq_self, Nat.add_zero, decide_true, decide_false, decide_not, Bool.not_true, Bool.not_false, Bool.true_and, Bool.false_and, Bool.and_true, Bool.and_false, Bool.or_true, Bool.true_or, Bool.or_false, Bool.false_or, if_true, if_false, Bool.false_eq_true, z01_0, z01_1, Bool.true_eq_false, nx _ hy]
      exact QB.mk
    · obtain ⟨o, ho, rfl⟩ := inr_t hy
      have p16 : 2 ^ j < 16 := by
        have := Nat.pow_lt_pow_right (a := 2) (m := j) (n := 4) (by decide) (by omega)
        omega
      have g1 := e1.thL ho nh 0 4000 (2 ^ j) p16 (by omega) (by omega)
      have g2 := e1.thM ho 4 0 4000 (2 ^ j) p16 (by omega) (by omega)
      rw [thr_4 h4 (fun i hi => (h.2.2.1.1.2.2.2.2.1 i hi).2.2) hj ho, show nI 0 = (0 : Int32) from rfl] at g1
      rw [show nI 0 = (0 : Int32) from rfl] at g2
      simp (disch := omega) only [tA_e, tA_l, tW0_e, tW0_l, nN_al, nN_la, nN_ad, nN_lm, nN_ml, nN_le, nN_lt, nN_eq, nN_lel, nN_lle, nN_ltl, nN_llt, nN_eql, nN_rm, nN_dv, ob_s, ob_2, ob_3, ite_true, ite_false, not_true_eq_false, not_false_eq_true, ite_self, eq_self, Nat.add_zero, decide_true, decide_false, decide_not, Bool.not_true, Bool.not_false, Bool.true_and, Bool.false_and, Bool.and_true, Bool.and_false, Bool.or_true, Bool.true_or, Bool.or_false, Bool.false_or, if_true, if_false, Bool.false_eq_true, z01_0, z01_1, Bool.true_eq_false, nN_shl, g1, g2]
      cases thr (V 3) nh o 4 (2 ^ j) 0
      · exact QB.mk
      · exact QB.mk
theorem gs_tb {f : Nat → Int32} {x : Int32} : ∀ k j, (gs f x k).testBit j = (decide (j < k) && decide (f j = x)) := by
  intro k
  induction k with
  | zero => intro j; simp [gs]
  | succ k ih =>
    intro j
    rw [gs]
    by_cases c : f k = x
    · rw [if_pos c, ← or_pw (gs_lt f x k), Nat.testBit_or, ih, Nat.testBit_two_pow]
      by_cases e : k = j
      · subst e
        simp [c]
      · have : (decide (j < k + 1)) = decide (j < k) := decide_eq_decide.2 (by omega)
        simp [e, this]
    · rw [if_neg c, Nat.add_zero, ih]
      by_cases e : k = j
      · subst e
        simp [c]
      · have : (decide (j < k + 1)) = decide (j < k) := decide_eq_decide.2 (by omega)
        rw [this]
/-- those of x that are at y, one by one -/
def wh (x : Nat) (f : Nat → Int32) (y : Int32) : Nat → Nat
  | 0 => x
  | k + 1 => if f k = y then wh x f y k else wh x f y k &&& (63 - 2 ^ k)
theorem wh_lt {x : Nat} {f : Nat → Int32} {y : Int32} (hx : x < 64) : ∀ k, wh x f y k < 64 := by
  intro k
  induction k with
  | zero => exact hx
  | succ k ih =>
    unfold wh
    split
    · exact ih
    · exact Nat.lt_of_le_of_lt Nat.and_le_left ih
theorem m63 : ∀ k < 6, ∀ j < 6, (63 - 2 ^ k).testBit j = decide (¬ j = k) := by decide
theorem wh_e {x : Nat} {f : Nat → Int32} {y : Int32} {K : Nat} (hK : K ≤ 6) (hx : x < 2 ^ K) : wh x f y K = x &&& gs f y K := by
  have h64 : x < 2 ^ 6 := Nat.lt_of_lt_of_le hx (Nat.pow_le_pow_right (by decide) hK)
  have key : ∀ k, k ≤ 6 → ∀ j, j < 6 → (wh x f y k).testBit j = (x.testBit j && (decide (k ≤ j) || decide (f j = y))) := by
    intro k
    induction k with
    | zero => intro _ j _; simp [wh]
    | succ k ih =>
      intro hk j hj
      rw [wh]
      by_cases c : f k = y
      · rw [if_pos c, ih (by omega) j hj]
        by_cases e : j = k
        · subst e
          simp [c]
        · have : (decide (k + 1 ≤ j)) = decide (k ≤ j) := decide_eq_decide.2 (by omega)
          rw [this]
      · rw [if_neg c, Nat.testBit_and, ih (by omega) j hj, m63 k (by omega) j hj]
        by_cases e : j = k
        · subst e
          simp [c]
        · have : (decide (k + 1 ≤ j)) = decide (k ≤ j) := decide_eq_decide.2 (by omega)
          simp [this, e]
  apply Nat.eq_of_testBit_eq
  intro j
  rw [Nat.testBit_and, gs_tb]
  by_cases hj : j < K
  · rw [key K hK j (by omega), decide_eq_false (show ¬ K ≤ j by omega)]
    simp [hj]
  · have e1 : x.testBit j = false := Nat.testBit_lt_two_pow (Nat.lt_of_lt_of_le hx (Nat.pow_le_pow_right (by decide) (by omega)))
    rw [e1, Bool.false_and]
    by_cases hj6 : j < 6
    · rw [key K hK j hj6, e1, Bool.false_and]
    · exact Nat.testBit_lt_two_pow (Nat.lt_of_lt_of_le (wh_lt h64 K) (by rw [show 64 = 2 ^ 6 from rfl]; exact Nat.pow_le_pow_right (by decide) (by omega)))
theorem clr_e {x k : Nat} (hx : x < 64) (hk : k < 6) : nI x &&& (nI (2 ^ k) ^^^ (-1 : Int32)) = nI (x &&& (63 - 2 ^ k)) := by
  have : ∀ x < 64, ∀ k < 6, nI x &&& (nI (2 ^ k) ^^^ (-1 : Int32)) = nI (x &&& (63 - 2 ^ k)) := by decide +kernel
  exact this x hx k hk
theorem and_m1 {x : Nat} (hx : x < 64) : nI x &&& (-1 : Int32) = nI x := by
  have : ∀ x < 64, nI x &&& (-1 : Int32) = nI x := by decide +kernel
  exact this x hx
theorem PQ.w45 (h : PQ v nh nd st V n m S t0 t0' t t') {i : Nat} {y b : Int32} (hi : i < 8) (e1 : t'.2.1 234 (31 + 2 * i) = y) (e2 : t'.2.1 234 (31 + 2 * i + 1) = b) {N v3 : Int32} {x : Nat} (hx : x < 64) : ∀ (k d f : Nat), d + k = nd → k < f → tX10_whoNow_L45 f (nI (if b = N then wh x (S 4) y d else x)) N v3 (nI (31 + 2 * i)) (nI d) t' = some (nI (if b = N then wh x (S 4) y nd else x)) := by
  have h6 := h.1.h6
  intro k
  induction k with
  | zero =>
    intro d f hd hf
    obtain ⟨f, rfl⟩ : ∃ g, f = g + 1 := ⟨f - 1, by omega⟩
    obtain rfl : d = nd := by omega
    rw [tX10_whoNow_L45]
    simp (disch := omega) only [tA_e, tA_l, tW0_e, tW0_l, nN_al, nN_la, nN_ad, nN_lm, nN_ml, nN_le, nN_lt, nN_eq, nN_lel, nN_lle, nN_ltl, nN_llt, nN_eql, nN_rm, nN_dv, ob_s, ob_2, ob_3, ite_true, ite_false, not_true_eq_false, not_false_eq_true, ite_self, eq_self, Nat.add_zero, h.1.days, Nat.le_refl]
  | succ k ih =>
    intro d f hd hf
    obtain ⟨f, rfl⟩ : ∃ g, f = g + 1 := ⟨f - 1, by omega⟩
    have c1 : ¬ nd ≤ d := by omega
    have hdn : d < nd := by omega
    have ih := ih (d + 1) f (by omega) (by omega)
    rw [tX10_whoNow_L45]
    simp (disch := omega) only [tA_e, tA_l, tW0_e, tW0_l, nN_al, nN_la, nN_ad, nN_lm, nN_ml, nN_le, nN_lt, nN_eq, nN_lel, nN_lle, nN_ltl, nN_llt, nN_eql, nN_rm, nN_dv, ob_s, ob_2, ob_3, ite_true, ite_false, not_true_eq_false, not_false_eq_true, ite_self, eq_self, Nat.add_zero, h.1.days, c1, e1, e2, h.m4 hdn, nN_shl]
    by_cases c2 : b = N
    · rw [if_pos c2, if_pos c2, wh] at ih
      have hw := wh_lt (f := S 4) (y := y) hx d
      by_cases c3 : S 4 d = y
      · rw [if_pos c3] at ih
        simp only [tA_e, tA_l, tW0_e, tW0_l, nN_al, nN_la, nN_ad, nN_lm, nN_ml, nN_le, nN_lt, nN_eq, nN_lel, nN_lle, nN_ltl, nN_llt, nN_eql, nN_rm, nN_dv, ob_s, ob_2, ob_3, ite_true, ite_false, not_true_eq_false, not_false_eq_true, ite_self, eq_self, Nat.add_zero, eq_true c2, eq_true c3, and_m1 hw]
        exact ih
      · rw [if_neg c3] at ih
        simp only [tA_e, tA_l, tW0_e, tW0_l, nN_al, nN_la, nN_ad, nN_lm, nN_ml, nN_le, nN_lt, nN_eq, nN_lel, nN_lle, nN_ltl, nN_llt, nN_eql, nN_rm, nN_dv, ob_s, ob_2, ob_3, ite_true, ite_false, not_true_eq_false, not_false_eq_true, ite_self, eq_self, Nat.add_zero, eq_true c2, c3, clr_e hw (show d < 6 by omega)]
        exact ih
    · rw [if_neg c2, if_neg c2] at ih
      simp only [tA_e, tA_l, tW0_e, tW0_l, nN_al, nN_la, nN_ad, nN_lm, nN_ml, nN_le, nN_lt, nN_eq, nN_lel, nN_lle, nN_ltl, nN_llt, nN_eql, nN_rm, nN_dv, ob_s, ob_2, ob_3, ite_true, ite_false, not_true_eq_false, not_false_eq_true, ite_self, eq_self, Nat.add_zero, c2, and_m1 hx]
      exact ih
theorem PQ.w23 (h : PQ v nh nd st V n m S t0 t0' t t') {K N : Nat} (hK : K ≤ 8) (hN : N < 100) (s1 : t.1 176 2 = nI K) (s2 : t'.2.1 234 30 = nI K) (s3 : ∀ i, i < K → t'.2.1 234 (31 + 2 * i) = t.2.1 177 i ∧ t'.2.1 234 (31 + 2 * i + 1) = t.2.1 178 i) : ∀ (k i f f' x : Nat), x < 2 ^ nd → i + k = K → k < f → k < f' → ∃ y, y < 2 ^ nd ∧ tX9_who_L33 f (nI x) (nI N) (nI i) t = some (nI y) ∧ tX10_whoNow_L23 f' (nI x) (nI N) (nI i) t' = some (nI y) := by
  have h6 := h.1.h6
  have p64 : 2 ^ nd ≤ 64 := by rw [show 64 = 2 ^ 6 from rfl]; exact Nat.pow_le_pow_right (by decide) h6
  intro k
  induction k with
  | zero =>
    intro i f f' x hx hi hf hf'
    obtain ⟨f, rfl⟩ : ∃ g, f = g + 1 := ⟨f - 1, by omega⟩
    obtain ⟨f', rfl⟩ : ∃ g, f' = g + 1 := ⟨f' - 1, by omega⟩
    obtain rfl : i = K := by omega
    rw [tX9_who_L33, tX10_whoNow_L23]
    simp (disch := omega) only [tA_e, tA_l, tW0_e, tW0_l, nN_al, nN_la, nN_ad, nN_lm, nN_ml, nN_le, nN_lt, nN_eq, nN_lel, nN_lle, nN_ltl, nN_llt, nN_eql, nN_rm, nN_dv, ob_s, ob_2, ob_3, ite_true, ite_false, not_true_eq_false, not_false_eq_true, ite_self, eq_self, Nat.add_zero, s1, s2, Nat.le_refl]
    exact ⟨x, hx, rfl, rfl⟩
  | succ k ih =>
    intro i f f' x hx hi hf hf'
    obtain ⟨f, rfl⟩ : ∃ g, f = g + 1 := ⟨f - 1, by omega⟩
    obtain ⟨f', rfl⟩ : ∃ g, f' = g + 1 := ⟨f' - 1, by omega⟩
    have c1 : ¬ K ≤ i := by omega
    obtain ⟨a1, a2⟩ := s3 i (by omega)
    have w := h.w45 (i := i) (by omega) a1 a2 (N := nI N) (v3 := nI i) (x := x) (by omega) nd 0 4000 (by omega) (by omega)
    rw [show (if t.2.1 178 i = nI N then wh x (S 4) (t.2.1 177 i) 0 else x) = x from by split <;> rfl, wh_e h6 hx, show nI 0 = (0 : Int32) from rfl] at w
    rw [tX9_who_L33, tX10_whoNow_L23]
    have hg : x &&& gs (S 4) (t.2.1 177 i) nd < 2 ^ nd := Nat.lt_of_le_of_lt Nat.and_le_left hx
    simp (disch := omega) only [tA_e, tA_l, tW0_e, tW0_l, nN_al, nN_la, nN_ad, nN_lm, nN_ml, nN_le, nN_lt, nN_eq, nN_lel, nN_lle, nN_ltl, nN_llt, nN_eql, nN_rm, nN_dv, ob_s, ob_2, ob_3, ite_true, ite_false, not_true_eq_false, not_false_eq_true, ite_self, eq_self, Nat.add_zero, s1, s2, c1, w, h.rv, h.1.guests, nN_and]
    by_cases c2 : t.2.1 178 i = nI N
    · simp only [tA_e, tA_l, tW0_e, tW0_l, nN_al, nN_la, nN_ad, nN_lm, nN_ml, nN_le, nN_lt, nN_eq, nN_lel, nN_lle, nN_ltl, nN_llt, nN_eql, nN_rm, nN_dv, ob_s, ob_2, ob_3, ite_true, ite_false, not_true_eq_false, not_false_eq_true, ite_self, eq_self, Nat.add_zero, eq_true c2]
      exact ih (i + 1) f f' _ hg (by omega) (by omega) (by omega)
    · simp only [tA_e, tA_l, tW0_e, tW0_l, nN_al, nN_la, nN_ad, nN_lm, nN_ml, nN_le, nN_lt, nN_eq, nN_lel, nN_lle, nN_ltl, nN_llt, nN_eql, nN_rm, nN_dv, ob_s, ob_2, ob_3, ite_true, ite_false, not_true_eq_false, not_false_eq_true, ite_self, eq_self, Nat.add_zero, c2]
      exact ih (i + 1) f f' _ hx (by omega) (by omega) (by omega)
theorem PQ.w25 {K : Nat} (hK : K ≤ 8) (s1 : t0.1 176 2 = nI K) (s2 : t0'.2.1 234 30 = nI K) (s3 : ∀ i, i < K → t0'.2.1 234 (31 + 2 * i) = t0.2.1 177 i ∧ t0'.2.1 234 (31 + 2 * i + 1) = t0.2.1 178 i) : ∀ (k i f f' x n m : Nat) (S : Nat → Nat → Int32) (t t' : tS), PQ v nh nd st V n m S t0 t0' t t' → x < 2 ^ nd → n + k < 900000 → i + k = 25 → k < f → k < f' → ∃ y n1 m1 S1 t1 t1', y < 2 ^ nd ∧ tX9_who_L25 f (nI x) (nI i) t = some (nI y, t1) ∧ tX10_whoNow_L15 f' (nI x) (nI i) t' = some (nI y, t1') ∧ PQ v nh nd st V n1 m1 S1 t0 t0' t1 t1' := by
  intro k
  induction k with
  | zero =>
    intro i f f' x n m S t t' h hx hn hi hf hf'
    obtain ⟨f, rfl⟩ : ∃ g, f = g + 1 := ⟨f - 1, by omega⟩
    obtain ⟨f', rfl⟩ : ∃ g, f' = g + 1 := ⟨f' - 1, by omega⟩
    have c1 : 24 < i := by omega
    rw [tX9_who_L25, tX10_whoNow_L15]
    simp (disch := omega) only [tA_e, tA_l, tW0_e, tW0_l, nN_al, nN_la, nN_ad, nN_lm, nN_ml, nN_le, nN_lt, nN_eq, nN_lel, nN_lle, nN_ltl, nN_llt, nN_eql, nN_rm, nN_dv, ob_s, ob_2, ob_3, ite_true, ite_false, not_true_eq_false, not_false_eq_true, ite_self, eq_self, Nat.add_zero, c1]
    exact ⟨_, _, _, _, _, _, hx, rfl, rfl, h⟩
  | succ k ih =>
    intro i f f' x n m S t t' h hx hn hi hf hf'
    have hvv := h.1.2.1
    obtain ⟨f, rfl⟩ : ∃ g, f = g + 1 := ⟨f - 1, by omega⟩
    obtain ⟨f', rfl⟩ : ∃ g, f' = g + 1 := ⟨f' - 1, by omega⟩
    have c1 : ¬ 24 < i := by omega
    obtain ⟨f1, f2⟩ := h.fr
    obtain ⟨S1, c2, o1, t1, t1', e1, e2, e3, _⟩ := h.pass (by omega)
    obtain ⟨y, y1, y2, y3⟩ := h.w23 hK (N := i) (by omega) ((f1.1 _ _ (by omega)).trans s1) ((f2.2.1 _ _ (by omega) (by omega) (by omega)).trans s2) (by
      intro j hj
      rw [f2.2.1 _ _ (by omega) (by omega) (by omega), f2.2.1 _ _ (by omega) (by omega) (by omega), f1.2.1 _ _ (by omega) (by omega), f1.2.1 _ _ (by omega) (by omega)]
      exact s3 j hj) K 0 4000 4000 x hx (by omega) (by omega) (by omega)
    rw [show nI 0 = (0 : Int32) from rfl] at y2 y3
    rw [tX9_who_L25, tX10_whoNow_L15]
    simp (disch := omega) only [tA_e, tA_l, tW0_e, tW0_l, nN_al, nN_la, nN_ad, nN_lm, nN_ml, nN_le, nN_lt, nN_eq, nN_lel, nN_lle, nN_ltl, nN_llt, nN_eql, nN_rm, nN_dv, ob_s, ob_2, ob_3, ite_true, ite_false, not_true_eq_false, not_false_eq_true, ite_self, eq_self, Nat.add_zero, c1, y2, y3, e1, e2]
    exact ih (i + 1) f f' y _ _ _ _ _ e3 y1 (by omega) (by omega) (by omega) (by omega)
theorem sh_m1 {k : Nat} (hk : k < 7) : ((1 : Int32) <<< (nI k &&& 31)) - 1 = nI (2 ^ k - 1) := by
  have : ∀ k < 7, ((1 : Int32) <<< (nI k &&& 31)) - 1 = nI (2 ^ k - 1) := by decide
  exact this k hk
/-- who, and what is behind it -/
theorem who_e {w p q N : Nat} (h : GP v w p q nh nd st V N t t') : ∃ y t1 t1', y < 2 ^ nd ∧ tX9_who t = some (nI y, t1) ∧ tX10_whoNow (uI t' 218 0 0) = some (nI y, t1') ∧ YQ t t1 ∧ ZQ t' t1' := by
  have h6 := h.h6
  obtain ⟨n, m, S, t1, t1', e1, e2, e3, e4, e5, e6, e7, _⟩ := h.qr.tries
  obtain ⟨K, q1, q2, q3, q4⟩ := h.2.2.2.2.2.2.2.1
  have e0 := h.2.2.2.1.2.2.1.2.1
  have rv := h.2.2.1.1
  have d0 : tX10_days (uI t' 218 0 0) = some (nI nd) := by
    unfold tX10_days
    rw [show (1 : Int32) = nI 1 from rfl, tA_e (by omega) (by omega), ob_s]
    exact congrArg some h.2.2.2.1.2.2.2.1.2.1
  obtain ⟨y, n2, m2, S2, t2, t2', y1, f1, f2, f3⟩ := PQ.w25 (v := v) (nh := nh) (nd := nd) (st := st) (V := V) (t0 := t) (t0' := uI t' 218 0 0) q1 q2 q3 (by
    intro i hi
    obtain ⟨g1, g2, _⟩ := q4 i hi
    rw [show 0 + (31 + 2 * i) = 31 + 2 * i from by omega] at g1
    rw [show 0 + (32 + 2 * i) = 31 + 2 * i + 1 from by omega] at g2
    exact ⟨g1, g2⟩) 25 0 4000 4000 (2 ^ nd - 1) n m S t1 t1' e3 (by have := Nat.two_pow_pos nd; omega) (by omega) (by omega) (by omega) (by omega)
  rw [show nI 0 = (0 : Int32) from rfl] at f1 f2
  unfold tX9_who tX10_whoNow
  simp only [ob_s, d0, e1, e2, rv, e0, sh_m1 (show nd < 7 by omega), f1, f2, ob_2]
  exact ⟨y, _, _, y1, rfl, rfl, f3.fr.1.yq h.qr.1, (ZQ.th (.inl rfl)).tr (f3.fr.2.zq (by decide))⟩
theorem q_who {w p q N : Nat} (h : GP v w p q nh nd st V N t t') : QA (tX9_who t) (tX10_who t') t t' := by
  obtain ⟨y, t1, t1', _, e1, e2, e3, e4⟩ := who_e h
  unfold tX10_who
  simp only [ob_s, e1, e2, ob_2]
  exact ⟨_, _, _, rfl, rfl, e3, e4⟩
end
