/-! ===== PURE: copies, and which numbers are days and houses ===== -/
section
variable {v nh nd st a b n m : Nat} {V : Nat → Nat → Nat} {S : Nat → Nat → Int32} {t0 t0' t t' : tS}
theorem uF_s {t : tS} {a : Nat} {g : Nat → Int32} : (uF t a g).2.1 a = g := by
  show up1 _ _ _ a = g
  unfold up1
  rw [if_pos rfl]
theorem uF_n {t : tS} {a b : Nat} {g : Nat → Int32} (h : b ≠ a) : (uF t a g).2.1 b = t.2.1 b := by
  show up1 _ _ _ b = _
  unfold up1
  rw [if_neg h]
theorem uF_1 {t : tS} {a : Nat} {g : Nat → Int32} : (uF t a g).1 = t.1 := (rfl)
theorem uF_3 {t : tS} {a : Nat} {g : Nat → Int32} : (uF t a g).2.2 = t.2.2 := (rfl)
theorem cpy_l {f g : Nat → Int32} {n j : Nat} (h : j < n) : va_cpy f g 0 0 n j = f j := by
  unfold va_cpy
  rw [if_pos (by omega)]
  congr 1
  omega
theorem tWC_4 {t : tS} {a0 a1 : Nat} : tWC t a0 4 0 a1 4 0 4 = some (uF t a1 (va_cpy (t.2.1 a0) (t.2.1 a1) 0 0 4)) := by
  unfold tWC
  rw [if_pos (by decide)]
  rfl
theorem tWC_6 {t : tS} {a0 a1 : Nat} : tWC t a0 6 0 a1 6 0 6 = some (uF t a1 (va_cpy (t.2.1 a0) (t.2.1 a1) 0 0 6)) := by
  unfold tWC
  rw [if_pos (by decide)]
  rfl
theorem tWC_8 {t : tS} {a0 a1 : Nat} : tWC t a0 8 0 a1 8 0 8 = some (uF t a1 (va_cpy (t.2.1 a0) (t.2.1 a1) 0 0 8)) := by
  unfold tWC
  rw [if_pos (by decide)]
  rfl
/-- what changes at a stand and nothing else -/
def CG (a : Nat) (t0 t : tS) : Prop := (∀ b k, b ≠ a → t.1 b k = t0.1 b k) ∧ (∀ b i, ¬ (a + 1 ≤ b ∧ b ≤ a + 6) → t.2.1 b i = t0.2.1 b i) ∧ t.2.2 = t0.2.2
theorem CG.cf (h : CG a t t') : CF a v t t' := ⟨h.1, fun b i h1 _ => h.2.1 b i h1, h.2.2⟩
theorem CS.copy {a2 : Nat} (h : CS nh nd a n m S t) (h4 : nh ≤ 4) (h6 : nd ≤ 6) (hd : a + 7 ≤ a2 ∨ a2 + 7 ≤ a) : ∃ t1, tX6_copyFrom a2 a t = some t1 ∧ CS nh nd a2 n m S t1 ∧ CG a2 t t1 := by
  obtain ⟨h1, h2, h3, g1, g2, g3, g4, g5, g6⟩ := h
  unfold tX6_copyFrom
  simp only [tWC_4, tWC_6, ob_s]
  refine ⟨_, rfl, ⟨?_, ?_, ?_, ?_, ?_, ?_, ?_, ?_, ?_⟩, ?_, ?_, ?_⟩
  · rw [uI_1, if_neg (by omega), uI_1, if_neg (by omega), uI_1, if_pos ⟨rfl, rfl⟩]
    exact h1
  · rw [uI_1, if_neg (by omega), uI_1, if_pos ⟨rfl, rfl⟩, uI_1, if_neg (by omega)]
    exact h2
  · rw [uI_1, if_pos ⟨rfl, rfl⟩, uI_1, if_neg (by omega), uI_1, if_neg (by omega)]
    exact h3
  · intro j hj
    simp (disch := omega) only [uI_2, uF_s, uF_n, cpy_l]
    exact g1 j hj
  · intro j hj
    simp (disch := omega) only [uI_2, uF_s, uF_n, cpy_l]
    exact g2 j hj
  · intro j hj
    simp (disch := omega) only [uI_2, uF_s, uF_n, cpy_l]
    exact g3 j hj
  · intro j hj
    simp (disch := omega) only [uI_2, uF_s, uF_n, cpy_l]
    exact g4 j hj
  · intro j hj
    simp (disch := omega) only [uI_2, uF_s, uF_n, cpy_l]
    exact g5 j hj
  · intro j hj
    simp (disch := omega) only [uI_2, uF_s, uF_n, cpy_l]
    exact g6 j hj
  · intro b k hb
    rw [uI_1, if_neg (by omega), uI_1, if_neg (by omega), uI_1, if_neg (by omega)]
    rfl
  · intro b i hb
    simp (disch := omega) only [uI_2, uF_n]
  · rfl
/-- what changes of the reference's row of states between two places, and nothing else -/
def MG (b e : Nat) (t0 t : tS) : Prop := t.1 = t0.1 ∧ (∀ c i, ¬ (c = 234 ∧ b ≤ i ∧ i < e) → t.2.1 c i = t0.2.1 c i) ∧ t.2.2 = t0.2.2
theorem MG.mf (h : MG b (b + 30) t t') : MF b t t' := ⟨fun c k _ => by rw [h.1], fun c i _ _ h3 => h.2.1 c i h3, h.2.2⟩
theorem copies_L {p q N : Nat} (hp : p + N ≤ 1081) (hq : q + N ≤ 1081) (hd : p + N ≤ q ∨ q + N ≤ p) : ∀ (k i f : Nat) (t : tS), i + k = N → k < f → ∃ t1, tX10_copies_L3 f (nI p) (nI q) (nI N) (nI i) t = some t1 ∧ MG (q + i) (q + N) t t1 ∧ ∀ j, i ≤ j → j < N → t1.2.1 234 (q + j) = t.2.1 234 (p + j) := by
  intro k
  induction k with
  | zero =>
    intro i f t hi hf
    obtain ⟨f, rfl⟩ : ∃ g, f = g + 1 := ⟨f - 1, by omega⟩
    obtain rfl : i = N := by omega
    rw [tX10_copies_L3]
    simp (disch := omega) only [tA_e, tA_l, tW0_e, tW0_l, nN_al, nN_la, nN_ad, nN_lm, nN_ml, nN_le, nN_lt, nN_eq, nN_lel, nN_lle, nN_ltl, nN_llt, nN_eql, nN_rm, nN_dv, ob_s, ob_2, ob_3, ite_true, ite_false, not_true_eq_false, not_false_eq_true, ite_self, eq_self, Nat.add_zero, Nat.le_refl]
    exact ⟨_, rfl, ⟨rfl, fun _ _ _ => rfl, rfl⟩, fun j h1 h2 => by omega⟩
  | succ k ih =>
    intro i f t hi hf
    obtain ⟨f, rfl⟩ : ∃ g, f = g + 1 := ⟨f - 1, by omega⟩
    have c1 : ¬ N ≤ i := by omega
    rw [tX10_copies_L3]
    simp (disch := omega) only [tA_e, tA_l, tW0_e, tW0_l, nN_al, nN_la, nN_ad, nN_lm, nN_ml, nN_le, nN_lt, nN_eq, nN_lel, nN_lle, nN_ltl, nN_llt, nN_eql, nN_rm, nN_dv, ob_s, ob_2, ob_3, ite_true, ite_false, not_true_eq_false, not_false_eq_true, ite_self, eq_self, Nat.add_zero, c1]
    obtain ⟨t1, e1, ⟨e2, e3, e4⟩, e5⟩ := ih (i + 1) f (uA t 234 (q + i) (t.2.1 234 (p + i))) (by omega) (by omega)
    refine ⟨t1, e1, ⟨e2, ?_, e4⟩, ?_⟩
    · intro c j hc
      rw [e3 c j (by omega), uA_2, if_neg (by omega)]
    · intro j h1 h2
      by_cases c : j = i
      · subst c
        rw [e3 _ _ (by omega), uA_2, if_pos ⟨rfl, rfl⟩]
      · rw [e5 j (by omega) h2, uA_2, if_neg (by omega)]
theorem copies_e {p q N : Nat} {t : tS} (hp : p + N ≤ 1081) (hq : q + N ≤ 1081) (hd : p + N ≤ q ∨ q + N ≤ p) : ∃ t1, tX10_copies (nI p) (nI q) (nI N) t = some t1 ∧ MG q (q + N) t t1 ∧ ∀ j, j < N → t1.2.1 234 (q + j) = t.2.1 234 (p + j) := by
  obtain ⟨t1, e1, e2, e3⟩ := copies_L hp hq hd N 0 4000 t (by omega) (by omega)
  refine ⟨t1, ?_, e2, fun j hj => e3 j (by omega) hj⟩
  unfold tX10_copies
  rw [show (0 : Int32) = nI 0 from rfl, e1]
  rfl
theorem MS.copy {b2 : Nat} {t1 : tS} (h : MS nh nd b n m S t) (h4 : nh ≤ 4) (h6 : nd ≤ 6) (h1 : ∀ j, j < 30 → t1.2.1 234 (b2 + j) = t.2.1 234 (b + j)) (h2 : ∀ j, t1.2.1 236 j = t.2.1 236 j) : MS nh nd b2 n m S t1 := by
  obtain ⟨g1, g2, g3, g4, g5, g6, g7, g8⟩ := h
  refine ⟨(h1 0 (by omega)).trans g1, (h1 1 (by omega)).trans g2, ?_, fun j hj => (h2 j).trans (g4 j hj), ?_, ?_, ?_, ?_⟩
  · intro j hj
    rw [Nat.add_assoc, h1 _ (by omega), ← Nat.add_assoc]; exact g3 j hj
  · intro j hj
    rw [Nat.add_assoc, h1 _ (by omega), ← Nat.add_assoc]; exact g5 j hj
  · intro j hj
    rw [Nat.add_assoc, h1 _ (by omega), ← Nat.add_assoc]; exact g6 j hj
  · intro j hj
    rw [Nat.add_assoc, h1 _ (by omega), ← Nat.add_assoc]; exact g7 j hj
  · intro j hj
    rw [Nat.add_assoc, h1 _ (by omega), ← Nat.add_assoc]; exact g8 j hj
/-- the vale told, in both -/
def BR (v nh nd st : Nat) (V : Nat → Nat → Nat) (t t' : tS) : Prop := VK nh nd st V ∧ (182 ≤ v ∧ v ≤ 196) ∧ CV v nh nd st V t ∧ MV nh nd st V t' ∧ LR v t t'
theorem PR.br (h : PR v nh nd st V a b n m S t0 t0' t t') : BR v nh nd st V t t' := ⟨h.1, ⟨h.2.1.1, h.2.1.2.1⟩, h.2.2.1, h.2.2.2.1, h.2.2.2.2.1⟩
theorem BR.try {a2 b2 : Nat} (h : BR v nh nd st V t t') (hc : CS nh nd a n m S t) (hm : MS nh nd b n m S t') (ha : a + 7 ≤ a2 ∨ a2 + 7 ≤ a) (ha2 : a2 + 7 ≤ 182) (hb : b + 30 ≤ b2 ∨ b2 + 30 ≤ b) (hb1 : b + 47 ≤ 1081) (hb2 : b2 + 47 ≤ 1081) : ∃ t1 t1', tX6_copyFrom a2 a t = some t1 ∧ tX10_copies (nI b) (nI b2) (nI 30) t' = some t1' ∧ PR v nh nd st V a2 b2 n m S t t' t1 t1' ∧ CG a2 t t1 ∧ MG b2 (b2 + 30) t' t1' := by
  obtain ⟨k1, k2, k3, k4, k5⟩ := h
  obtain ⟨t1, e1, e2, e3⟩ := hc.copy k1.1 k1.2.1 ha
  obtain ⟨t1', f1, f2, f3⟩ := copies_e (p := b) (q := b2) (N := 30) (t := t') (by omega) (by omega) hb
  have g1 : MS nh nd b2 n m S t1' := hm.copy k1.1 k1.2.1 f3 (fun j => f2.2.1 236 j (by omega))
  refine ⟨t1, t1', e1, f1, ⟨k1, ⟨k2.1, k2.2, ha2, hb2⟩, k3.fr (e3.cf (v := v)) (by omega), k4.fr f2.mf, k5.fr (e3.cf (v := v)) f2.mf (by omega), e2, g1, e3.cf, f2.mf⟩, e3, f2⟩
/-- whether a number is one of the first k -/
def inr (x : Int32) (k : Nat) : Bool := decide (0 ≤ x.toInt ∧ x.toInt < (k : Int))
theorem inr_t {x : Int32} {k : Nat} (h : inr x k = true) : ∃ d, d < k ∧ x = nI d := by
  unfold inr at h
  have h := of_decide_eq_true h
  have hx := Int32.toInt_lt x
  refine ⟨x.toInt.toNat, by omega, ?_⟩
  apply Int32.toInt_inj.1
  rw [nN_toInt (by omega)]
  omega
theorem inr_n {d k : Nat} (hd : d < 2147483648) : inr (nI d) k = decide (d < k) := by
  unfold inr
  rw [nN_toInt hd]
  by_cases c : d < k
  · rw [decide_eq_true c, decide_eq_true (by omega)]
  · rw [decide_eq_false c, decide_eq_false (by omega)]
theorem bI_z {c : Bool} : am_z01 (bI c) = some (bI c) := by cases c <;> rfl
theorem wi_e {x lo hi : Int32} {t : tS} : tX9_within x lo hi t = some (bI (decide (lo ≤ x ∧ x ≤ hi))) ∧ tX10_within x lo hi t = some (bI (decide (lo ≤ x ∧ x ≤ hi))) := by
  unfold tX9_within tX10_within
  have e1 : x < lo ↔ ¬ lo ≤ x := by rw [Int32.lt_iff_toInt_lt, Int32.le_iff_toInt_le]; omega
  have e2 : hi < x ↔ ¬ x ≤ hi := by rw [Int32.lt_iff_toInt_lt, Int32.le_iff_toInt_le]; omega
  simp only [e1, e2]
  by_cases c1 : lo ≤ x
  · by_cases c2 : x ≤ hi
    · simp only [c1, c2, tA_e, tA_l, tW0_e, tW0_l, nN_al, nN_la, nN_ad, nN_lm, nN_ml, nN_le, nN_lt, nN_eq, nN_lel, nN_lle, nN_ltl, nN_llt, nN_eql, nN_rm, nN_dv, ob_s, ob_2, ob_3, ite_true, ite_false, not_true_eq_false, not_false_eq_true, ite_self, eq_self, Nat.add_zero, decide_true, decide_false, decide_not, Bool.not_true, Bool.not_false, Bool.true_and, Bool.false_and, Bool.and_true, Bool.and_false, Bool.or_true, Bool.true_or, Bool.or_false, Bool.false_or, if_true, if_false, Bool.false_eq_true, z01_0, z01_1, and_self, bI]
    · simp only [c1, c2, tA_e, tA_l, tW0_e, tW0_l, nN_al, nN_la, nN_ad, nN_lm, nN_ml, nN_le, nN_lt, nN_eq, nN_lel, nN_lle, nN_ltl, nN_llt, nN_eql, nN_rm, nN_dv, ob_s, ob_2, ob_3, ite_true, ite_false, not_true_eq_false, not_false_eq_true, ite_self, eq_self, Nat.add_zero, decide_true, decide_false, decide_not, Bool.not_true, Bool.not_false, Bool.true_and, Bool.false_and, Bool.and_true, Bool.and_false, Bool.or_true, Bool.true_or, Bool.or_false, Bool.false_or, if_true, if_false, Bool.false_eq_true, z01_0, z01_1, and_false, and_self, bI]
  · simp only [c1, tA_e, tA_l, tW0_e, tW0_l, nN_al, nN_la, nN_ad, nN_lm, nN_ml, nN_le, nN_lt, nN_eq, nN_lel, nN_lle, nN_ltl, nN_llt, nN_eql, nN_rm, nN_dv, ob_s, ob_2, ob_3, ite_true, ite_false, not_true_eq_false, not_false_eq_true, ite_self, eq_self, Nat.add_zero, decide_true, decide_false, decide_not, Bool.not_true, Bool.not_false, Bool.true_and, Bool.false_and, Bool.and_true, Bool.and_false, Bool.or_true, Bool.true_or, Bool.or_false, Bool.false_or, if_true, if_false, Bool.false_eq_true, z01_0, z01_1, false_and, and_self, bI]
/-- within a lower bound and k -/
theorem wi_n {x : Int32} {lo hi : Nat} (hh : hi < 2147483648) (hl : lo < 2147483648) (h : decide (nI lo ≤ x ∧ x ≤ nI hi) = true) : ∃ d, lo ≤ d ∧ d ≤ hi ∧ x = nI d := by
  have h := of_decide_eq_true h
  rw [Int32.le_iff_toInt_le, Int32.le_iff_toInt_le, nN_toInt hh, nN_toInt hl] at h
  refine ⟨x.toInt.toNat, by omega, by omega, ?_⟩
  apply Int32.toInt_inj.1
  rw [nN_toInt (by omega)]
  omega
theorem wi_0 {x : Int32} {k : Nat} {t : tS} (hk : k < 2147483648) : tX9_within x 0 (nI k - 1) t = some (bI (inr x k)) := by
  rw [wi_e.1]
  congr 2
  unfold inr
  have e1 : (nI k - 1).toInt = (k : Int) - 1 := by
    by_cases c : k = 0
    · subst c
      decide
    · rw [show (1 : Int32) = nI 1 from rfl, nN_su (by omega), nN_toInt (by omega)]
      omega
  apply decide_eq_decide.2
  rw [Int32.le_iff_toInt_le, Int32.le_iff_toInt_le, e1, show (0 : Int32).toInt = 0 from rfl]
  omega
theorem is_m {x : Int32} {k : Nat} (hk : k < 2147483648) : ((if x < 0 then some (0 : Int32) else (some (nI k)).bind fun x4 => if x4 ≤ x then some (0 : Int32) else some (1 : Int32)).bind fun js1 => (am_z01 js1).bind fun b7 => some b7) = some (bI (inr x k)) := by
  unfold inr
  rw [ob_s]
  by_cases c1 : x < 0
  · have c2 := c1
    rw [Int32.lt_iff_toInt_lt, show (0 : Int32).toInt = 0 from rfl] at c2
    rw [if_pos c1, decide_eq_false (by omega)]
    rfl
  · have c2 := c1
    rw [Int32.lt_iff_toInt_lt, show (0 : Int32).toInt = 0 from rfl] at c2
    rw [if_neg c1]
    by_cases c3 : nI k ≤ x
    · have c4 := c3
      rw [Int32.le_iff_toInt_le, nN_toInt hk] at c4
      rw [if_pos c3, decide_eq_false (by omega)]
      rfl
    · have c4 := c3
      rw [Int32.le_iff_toInt_le, nN_toInt hk] at c4
      rw [if_neg c3, decide_eq_true (by omega)]
      rfl
theorem BR.isDay (h : BR v nh nd st V t t') (hv : t.2.2.2.2 0 9 = v) {x : Int32} : tX9_isDay x t = some (bI (inr x nd)) ∧ tX10_isDay x t' = some (bI (inr x nd)) := by
  obtain ⟨k1, k2, k3, k4, k5⟩ := h
  have h6 := k1.2.1
  constructor
  · unfold tX9_isDay
    rw [hv, k3.2.1, wi_0 (by omega), ob_s, bI_z, ob_s]
  · unfold tX10_isDay tX10_days
    rw [show (1 : Int32) = nI 1 from rfl, tA_e (by omega) (by omega), ob_s, k4.2.1]
    exact is_m (by omega)
theorem BR.isHouse (h : BR v nh nd st V t t') (hv : t.2.2.2.2 0 9 = v) {x : Int32} : tX9_isHouse x t = some (bI (inr x nh)) ∧ tX10_isHouse x t' = some (bI (inr x nh)) := by
  obtain ⟨k1, k2, k3, k4, k5⟩ := h
  have h6 := k1.1
  constructor
  · unfold tX9_isHouse
    rw [hv, k3.1, wi_0 (by omega), ob_s, bI_z, ob_s]
  · unfold tX10_isHouse tX10_houses
    rw [show (0 : Int32) = nI 0 from rfl, tA_e (by omega) (by omega), ob_s, k4.1]
    exact is_m (by omega)
end
