/-! ===== PURE: questions that look ahead ===== -/
section
variable {v nh nd st a b n m : Nat} {V : Nat → Nat → Nat} {S : Nat → Nat → Int32} {t0 t0' t t' : tS}
theorem sw_c {k g : Nat} (hk : k < 7) (hg : g < 2 ^ k) : (((1 : Int32) <<< (nI k &&& 31)) - 1) &&& (nI g ^^^ (-1 : Int32)) = nI (2 ^ k - 1 - g) := by
  have : ∀ k < 7, ∀ g < 64, g < 2 ^ k → (((1 : Int32) <<< (nI k &&& 31)) - 1) &&& (nI g ^^^ (-1 : Int32)) = nI (2 ^ k - 1 - g) := by decide
  exact this k hk g (Nat.lt_of_lt_of_le hg (by rw [show 64 = 2 ^ 6 from rfl]; exact Nat.pow_le_pow_right (by decide) (by omega))) hg
/-- the days that are somewhere -/
def sw (f : Nat → Int32) (k : Nat) : Nat := 2 ^ k - 1 - gs f (-1) k
theorem PR.somewhere (h : PR v nh nd st V a b n m S t0 t0' t t') : tX6_somewhere a v t = some (nI (sw (S 4) nd)) := by
  have h6 := h.h6
  unfold tX6_somewhere
  rw [h.guests, ob_s, h.cd, sw_c (by omega) (gs_lt _ _ _)]
  rfl
theorem sw_s (f : Nat → Int32) (k : Nat) : sw f (k + 1) = sw f k + (if f k = -1 then 0 else 2 ^ k) := by
  unfold sw
  rw [gs, Nat.pow_succ]
  have := gs_lt f (-1) k
  split <;> omega
theorem sw_lt (f : Nat → Int32) (k : Nat) : sw f k < 2 ^ k := by
  unfold sw
  have := gs_lt f (-1) k
  omega
theorem PR.swL (h : PR v nh nd st V a b n m S t0 t0' t t') (hs : SK nh nd st S) : ∀ (k i f : Nat), i + k = nd → k < f → tX10_somewhere_L4 f (nI b) (nI (sw (S 4) i)) (nI i) t' = some (nI (sw (S 4) nd)) := by
  have h6 := h.h6
  have h4 := h.h4
  have hb := h.b1
  intro k
  induction k with
  | zero =>
    intro i f hi hf
    obtain ⟨f, rfl⟩ : ∃ g, f = g + 1 := ⟨f - 1, by omega⟩
    obtain rfl : i = nd := by omega
    rw [tX10_somewhere_L4]
    simp (disch := omega) only [tA_e, tA_l, tW0_e, tW0_l, nN_al, nN_la, nN_ad, nN_lm, nN_ml, nN_le, nN_lt, nN_eq, nN_lel, nN_lle, nN_ltl, nN_llt, nN_eql, nN_rm, nN_dv, ob_s, ob_2, ob_3, ite_true, ite_false, not_true_eq_false, not_false_eq_true, ite_self, eq_self, Nat.add_zero, h.days, Nat.le_refl]
  | succ k ih =>
    intro i f hi hf
    obtain ⟨f, rfl⟩ : ∃ g, f = g + 1 := ⟨f - 1, by omega⟩
    have c1 : ¬ nd ≤ i := by omega
    have hg := sw_lt (S 4) i
    have gm := NN.m1 (by omega) (hs i (by omega)).2.2.1
    rw [tX10_somewhere_L4]
    simp (disch := omega) only [tA_e, tA_l, tW0_e, tW0_l, nN_al, nN_la, nN_ad, nN_lm, nN_ml, nN_le, nN_lt, nN_eq, nN_lel, nN_lle, nN_ltl, nN_llt, nN_eql, nN_rm, nN_dv, ob_s, ob_2, ob_3, ite_true, ite_false, not_true_eq_false, not_false_eq_true, ite_self, eq_self, Nat.add_zero, h.days, c1, h.m4, nN_shl, gm.1]
    have ih := ih (i + 1) f (by omega) (by omega)
    rw [sw_s] at ih
    by_cases c : S 4 i = -1
    · simp only [eq_true c, tA_e, tA_l, tW0_e, tW0_l, nN_al, nN_la, nN_ad, nN_lm, nN_ml, nN_le, nN_lt, nN_eq, nN_lel, nN_lle, nN_ltl, nN_llt, nN_eql, nN_rm, nN_dv, ob_s, ob_2, ob_3, ite_true, ite_false, not_true_eq_false, not_false_eq_true, ite_self, eq_self, Nat.add_zero, Int32.or_zero] at ih ⊢
      exact ih
    · simp only [c, tA_e, tA_l, tW0_e, tW0_l, nN_al, nN_la, nN_ad, nN_lm, nN_ml, nN_le, nN_lt, nN_eq, nN_lel, nN_lle, nN_ltl, nN_llt, nN_eql, nN_rm, nN_dv, ob_s, ob_2, ob_3, ite_true, ite_false, not_true_eq_false, not_false_eq_true, ite_self, eq_self, Nat.add_zero, nN_or, or_pw hg] at ih ⊢
      exact ih
theorem PR.somewhere' (h : PR v nh nd st V a b n m S t0 t0' t t') (hs : SK nh nd st S) : tX10_somewhere (nI b) t' = some (nI (sw (S 4) nd)) := by
  have h6 := h.h6
  unfold tX10_somewhere
  have := h.swL hs nd 0 4000 (by omega) (by omega)
  rw [show sw (S 4) 0 = 0 from rfl] at this
  rw [show (0 : Int32) = nI 0 from rfl, this]
  rfl
theorem PR.sw64 (h : PR v nh nd st V a b n m S t0 t0' t t') : sw (S 4) nd < 64 := Nat.lt_of_lt_of_le (sw_lt _ _) (by rw [show 64 = 2 ^ 6 from rfl]; exact Nat.pow_le_pow_right (by decide) h.h6)
theorem l987 : (987 : Int32) = nI 987 := (rfl)
theorem l1034 : (1034 : Int32) = nI 1034 := (rfl)
/-- the class's stand ahead against the reference's trial -/
def PQ (v nh nd st : Nat) (V : Nat → Nat → Nat) (n m : Nat) (S : Nat → Nat → Int32) (t0 t0' t t' : tS) : Prop := PR v nh nd st V 10 987 n m S t0 t0' t t' ∧ SK nh nd st S ∧ t.2.2.2.2 0 9 = v
theorem PQ.pass (h : PQ v nh nd st V n m S t0 t0' t t') (hn : n + 1 < 1000000) : ∃ S1 c1 o1 t1 t1', tX6_passDate 10 (t.2.2.2.2 0 9) t = some t1 ∧ tX10_passes 987 t' = some t1' ∧ PQ v nh nd st V (n + 1) (m + pc o1) S1 t0 t0' t1 t1' ∧ NX S S1 ∧ CO 10 c1 o1 t1 t1' ∧ c1 < 64 ∧ o1 < 64 ∧ c1 < 2 ^ nd ∧ o1 < 2 ^ nd := by
  obtain ⟨h1, h2, h3⟩ := h
  obtain ⟨S1, c1, o1, t1, t1', e1, e2, e3, e4, e5, e6, e7, e8, e9, e10⟩ := h1.pass h2 hn
  refine ⟨S1, c1, o1, t1, t1', by rw [h3]; exact e1, e2, ⟨e3, e4, ?_⟩, e5, e6, e7, e8, e9, e10⟩
  have f1 := h1.2.2.2.2.2.2.2.1.2.2
  have f2 := e3.2.2.2.2.2.2.2.1.2.2
  rw [f2, ← f1]
  exact h3
theorem PQ.c4 (h : PQ v nh nd st V n m S t0 t0' t t') {d : Nat} (hd : d < nd) : t.2.1 14 d = S 4 d := h.1.c4 hd
theorem PQ.c3 (h : PQ v nh nd st V n m S t0 t0' t t') {d : Nat} (hd : d < nd) : t.2.1 13 d = S 3 d := h.1.c3 hd
theorem PQ.c1 (h : PQ v nh nd st V n m S t0 t0' t t') {d : Nat} (hd : d < nh) : t.2.1 11 d = S 1 d := h.1.c1 hd
theorem PQ.m4 (h : PQ v nh nd st V n m S t0 t0' t t') {d : Nat} (hd : d < nd) : t'.2.1 234 (993 + d) = S 4 d := h.1.m4 hd
theorem PQ.m3 (h : PQ v nh nd st V n m S t0 t0' t t') {d : Nat} (hd : d < nd) : t'.2.1 234 (1005 + d) = S 3 d := h.1.m3 hd
theorem PQ.m1 (h : PQ v nh nd st V n m S t0 t0' t t') {d : Nat} (hd : d < nh) : t'.2.1 234 (989 + d) = S 1 d := h.1.m1 hd
theorem PQ.mo (h : PQ v nh nd st V n m S t0 t0' t t') : t'.2.1 234 988 = nI m := h.1.mo
theorem PQ.co (h : PQ v nh nd st V n m S t0 t0' t t') : t.1 10 8 = nI m := h.1.co
theorem PQ.rv (h : PQ v nh nd st V n m S t0 t0' t t') : t.2.2.2.2 0 9 = v := h.2.2
theorem PQ.isDay' (h : PQ v nh nd st V n m S t0 t0' t t') {x : Int32} : tX10_isDay x t' = some (bI (inr x nd)) := (h.1.br.isDay h.2.2).2
theorem PQ.isHouse' (h : PQ v nh nd st V n m S t0 t0' t t') {x : Int32} : tX10_isHouse x t' = some (bI (inr x nh)) := (h.1.br.isHouse h.2.2).2
theorem PQ.fr (h : PQ v nh nd st V n m S t0 t0' t t') : CF 10 v t0 t ∧ MF 987 t0' t' := h.1.2.2.2.2.2.2.2
/-- what a question may change -/
def YQ (t t1 : tS) : Prop := (∀ b k, b ≠ 10 → t1.1 b k = t.1 b k) ∧ (∀ b i, ¬ (11 ≤ b ∧ b ≤ 16) → b ≠ 195 → b ≠ 209 → ¬ (179 ≤ b ∧ b ≤ 181) → t1.2.1 b i = t.2.1 b i) ∧ t1.2.2.1 = t.2.2.1 ∧ t1.2.2.2.2 = t.2.2.2.2
def ZQ (t t1 : tS) : Prop := (∀ c k, ¬ (c = 218 ∧ (k = 0 ∨ k = 28 ∨ k = 29)) → t1.1 c k = t.1 c k) ∧ (∀ c i, c ≠ 232 → c ≠ 233 → c ≠ 237 → ¬ (c = 234 ∧ 987 ≤ i) → t1.2.1 c i = t.2.1 c i) ∧ t1.2.2.1 = t.2.2.1 ∧ t1.2.2.2.2 = t.2.2.2.2
theorem YQ.rf : YQ t t := ⟨fun _ _ _ => rfl, fun _ _ _ _ _ _ => rfl, rfl, rfl⟩
theorem YQ.tr {t1 t2 : tS} (h : YQ t t1) (g : YQ t1 t2) : YQ t t2 := ⟨fun b k hb => (g.1 b k hb).trans (h.1 b k hb), fun b i h1 h2 h3 h4 => (g.2.1 b i h1 h2 h3 h4).trans (h.2.1 b i h1 h2 h3 h4), g.2.2.1.trans h.2.2.1, g.2.2.2.trans h.2.2.2⟩
theorem ZQ.rf : ZQ t t := ⟨fun _ _ _ => rfl, fun _ _ _ _ _ _ => rfl, rfl, rfl⟩
theorem ZQ.tr {t1 t2 : tS} (h : ZQ t t1) (g : ZQ t1 t2) : ZQ t t2 := ⟨fun b k hb => (g.1 b k hb).trans (h.1 b k hb), fun b i h1 h2 h3 h4 => (g.2.1 b i h1 h2 h3 h4).trans (h.2.1 b i h1 h2 h3 h4), g.2.2.1.trans h.2.2.1, g.2.2.2.trans h.2.2.2⟩
theorem ZQ.th {k : Nat} {x : Int32} (hk : k = 0 ∨ k = 28 ∨ k = 29) : ZQ t (uI t 218 k x) := by
  refine ⟨fun c j hc => ?_, fun _ _ _ _ _ _ => rfl, rfl, rfl⟩
  rw [uI_1, if_neg (by omega)]
theorem CF.yq (h : CF 10 v t t') (hv : v = 182 ∨ v = 196) : YQ t t' := ⟨h.1, fun b i h1 h2 h3 h4 => h.2.1 b i (by omega) (by omega), by rw [h.2.2], by rw [h.2.2]⟩
theorem MF.zq (h : MF b t t') (hb : 987 ≤ b) : ZQ t t' := ⟨fun c k hc => h.1 c k (by omega), fun c i h1 h2 h3 h4 => h.2.1 c i h1 h2 (by omega), by rw [h.2.2], by rw [h.2.2]⟩
/-- a stand that is kept -/
def ST (nh nd st : Nat) (V : Nat → Nat → Nat) (a b N : Nat) (t t' : tS) : Prop := ∃ n m S, CS nh nd a n m S t ∧ MS nh nd b n m S t' ∧ SK nh nd st S ∧ (∀ j, j < nh → NN (S 1 j) 10) ∧ (∀ d, d < nd → S 2 d = nI (V 7 d)) ∧ n ≤ N ∧ m ≤ 6 * N
/-- what a question stands on -/
def QR (v nh nd st : Nat) (V : Nat → Nat → Nat) (N : Nat) (t t' : tS) : Prop := (v = 182 ∨ v = 196) ∧ t.2.2.2.2 0 9 = v ∧ BR v nh nd st V t t' ∧ ST nh nd st V 3 0 N t t' ∧ N ≤ 1000
theorem QR.tries {N : Nat} (h : QR v nh nd st V N t t') : ∃ n m S t1 t1', tX6_copyFrom 10 3 t = some t1 ∧ tX10_triesNow (uI t' 218 0 0) = some t1' ∧ PQ v nh nd st V n m S t (uI t' 218 0 0) t1 t1' ∧ (∀ j, j < nh → NN (S 1 j) 10) ∧ (∀ d, d < nd → S 2 d = nI (V 7 d)) ∧ n ≤ 1000 ∧ m ≤ 6000 ∧ CS nh nd 3 n m S t ∧ MS nh nd 0 n m S t' := by
  obtain ⟨h1, h2, h3, ⟨n, m, S, s1, s2, s3, s4, s5, s6, s7⟩, h5⟩ := h
  have h3' : BR v nh nd st V t (uI t' 218 0 0) := h3
  have s2' : MS nh nd 0 n m S (uI t' 218 0 0) := s2
  obtain ⟨t1, t1', e1, e2, e3, e4, e5⟩ := h3'.try (a2 := 10) (b2 := 987) s1 s2' (by omega) (by omega) (by omega) (by omega) (by omega)
  refine ⟨n, m, S, t1, t1', e1, ?_, ⟨e3, s3, by rw [e4.2.2]; exact h2⟩, s4, s5, by omega, by omega, s1, s2⟩
  unfold tX10_triesNow
  rw [show (0 : Int32) = nI 0 from rfl] at e2 ⊢
  rw [show (987 : Int32) = nI 987 from rfl, show (30 : Int32) = nI 30 from rfl, e2]
  rfl
/-- answers alike, and nothing that lasts is changed -/
def QA (o o' : Option (Int32 × tS)) (t t' : tS) : Prop := ∃ r t1 t1', o = some (r, t1) ∧ o' = some (r, t1') ∧ YQ t t1 ∧ ZQ t' t1'
theorem PQ.qa {x : Int32} {t1 t1' : tS} (h : PQ v nh nd st V n m S t (uI t' 218 0 0) t1 t1') (hv : v = 182 ∨ v = 196) : QA (some (x, t1)) (some (x, t1')) t t' := ⟨x, t1, t1', rfl, rfl, h.fr.1.yq hv, (ZQ.th (.inl rfl)).tr (h.fr.2.zq (by decide))⟩
theorem QA.no {x : Int32} : QA (some (x, t)) (some (x, uI t' 218 0 0)) t t' := ⟨x, _, _, rfl, rfl, YQ.rf, ZQ.th (.inl rfl)⟩
theorem PQ.whL {x : Int32} {K : Nat} (hK : K < 1000) : ∀ (k i f f' n m : Nat) (S : Nat → Nat → Int32) (t t' : tS), PQ v nh nd st V n m S t0 t0' t t' → n + k < 900000 → i + k = K → k < f → k < f' → ∃ n1 m1 S1 t1 t1', tX9_where_L34 f x (nI K) (nI i) t = some t1 ∧ tX10_where_L32 f' x (nI K) (nI i) t' = some t1' ∧ PQ v nh nd st V n1 m1 S1 t0 t0' t1 t1' := by
  intro k
  induction k with
  | zero =>
    intro i f f' n m S t t' h hn hi hf hf'
    obtain ⟨f, rfl⟩ : ∃ g, f = g + 1 := ⟨f - 1, by omega⟩
    obtain ⟨f', rfl⟩ : ∃ g, f' = g + 1 := ⟨f' - 1, by omega⟩
    obtain rfl : i = K := by omega
    rw [tX9_where_L34, tX10_where_L32]
    simp (disch := omega) only [tA_e, tA_l, tW0_e, tW0_l, nN_al, nN_la, nN_ad, nN_lm, nN_ml, nN_le, nN_lt, nN_eq, nN_lel, nN_lle, nN_ltl, nN_llt, nN_eql, nN_rm, nN_dv, ob_s, ob_2, ob_3, ite_true, ite_false, not_true_eq_false, not_false_eq_true, ite_self, eq_self, Nat.add_zero, Nat.le_refl]
    exact ⟨_, _, _, _, _, rfl, rfl, h⟩
  | succ k ih =>
    intro i f f' n m S t t' h hn hi hf hf'
    obtain ⟨f, rfl⟩ : ∃ g, f = g + 1 := ⟨f - 1, by omega⟩
    obtain ⟨f', rfl⟩ : ∃ g, f' = g + 1 := ⟨f' - 1, by omega⟩
    have c1 : ¬ K ≤ i := by omega
    obtain ⟨S1, c1', o1, t1, t1', e1, e2, e3, _⟩ := h.pass (by omega)
    rw [tX9_where_L34, tX10_where_L32]
    simp (disch := omega) only [tA_e, tA_l, tW0_e, tW0_l, nN_al, nN_la, nN_ad, nN_lm, nN_ml, nN_le, nN_lt, nN_eq, nN_lel, nN_lle, nN_ltl, nN_llt, nN_eql, nN_rm, nN_dv, ob_s, ob_2, ob_3, ite_true, ite_false, not_true_eq_false, not_false_eq_true, ite_self, eq_self, Nat.add_zero, c1, e1, e2]
    exact ih (i + 1) f f' _ _ _ _ _ e3 (by omega) (by omega) (by omega) (by omega)
theorem q_where {N : Nat} (h : QR v nh nd st V N t t') (x y : Int32) : QA (tX9_where x y t) (tX10_where x y t') t t' := by
  have hb := h.2.2.1.isDay h.2.1 (x := x)
  have h6 := h.2.2.1.1.2.1
  have hb' : tX10_isDay x (uI t' 218 0 0) = some (bI (inr x nd)) := hb.2
  unfold tX9_where tX10_where
  simp only [hb.1, hb', ob_s, wi_e.1, wi_e.2, bI_0]
  cases hi : inr x nd
  · simp only [tA_e, tA_l, tW0_e, tW0_l, nN_al, nN_la, nN_ad, nN_lm, nN_ml, nN_le, nN_lt, nN_eq, nN_lel, nN_lle, nN_ltl, nN_llt, nN_eql, nN_rm, nN_dv, ob_s, ob_2, ob_3, ite_true, ite_false, not_true_eq_false, not_false_eq_true, ite_self, eq_self, Nat.add_zero, decide_true, decide_false, decide_not, Bool.not_true, Bool.not_false, Bool.true_and, Bool.false_and, Bool.and_true, Bool.and_false, Bool.or_true, Bool.true_or, Bool.or_false, Bool.false_or, if_true, if_false, Bool.false_eq_true, z01_0, z01_1]
    exact QA.no
  · cases hw : decide ((0 : Int32) ≤ y ∧ y ≤ 60)
    · simp only [tA_e, tA_l, tW0_e, tW0_l, nN_al, nN_la, nN_ad, nN_lm, nN_ml, nN_le, nN_lt, nN_eq, nN_lel, nN_lle, nN_ltl, nN_llt, nN_eql, nN_rm, nN_dv, ob_s, ob_2, ob_3, ite_true, ite_false, not_true_eq_false, not_false_eq_true, ite_self, eq_self, Nat.add_zero, decide_true, decide_false, decide_not, Bool.not_true, Bool.not_false, Bool.true_and, Bool.false_and, Bool.and_true, Bool.and_false, Bool.or_true, Bool.true_or, Bool.or_false, Bool.false_or, if_true, if_false, Bool.false_eq_true, z01_0, z01_1, Bool.true_eq_false]
      exact QA.no
    · obtain ⟨d, hd, rfl⟩ := inr_t hi
      obtain ⟨K, _, hK, rfl⟩ := wi_n (lo := 0) (hi := 60) (by decide) (by decide) hw
      obtain ⟨n, m, S, t1, t1', e1, e2, e3, e4, e5, e6, e7, _⟩ := h.tries
      obtain ⟨n2, m2, S2, t2, t2', f1, f2, f3⟩ := PQ.whL (x := nI d) (K := K) (by omega) K 0 4000 4000 n m S t1 t1' e3 (by omega) (by omega) (by omega) (by omega)
      rw [show nI 0 = (0 : Int32) from rfl] at f1 f2
      simp (disch := omega) only [tA_e, tA_l, tW0_e, tW0_l, nN_al, nN_la, nN_ad, nN_lm, nN_ml, nN_le, nN_lt, nN_eq, nN_lel, nN_lle, nN_ltl, nN_llt, nN_eql, nN_rm, nN_dv, ob_s, ob_2, ob_3, ite_true, ite_false, not_true_eq_false, not_false_eq_true, ite_self, eq_self, Nat.add_zero, Bool.true_eq_false, e1, e2, f1, f2, f3.c4 hd, f3.m4 hd]
      exact f3.qa h.1
/-- a loop that ends early in both, or in none -/
def LQ (v : Nat) (t0 t0' : tS) (o o' : Option (tS ⊕ (Int32 × tS))) : Prop := ∃ t1 t1', CF 10 v t0 t1 ∧ MF 987 t0' t1' ∧ ((o = some (.inl t1) ∧ o' = some (.inl t1')) ∨ ∃ y, o = some (.inr (y, t1)) ∧ o' = some (.inr (y, t1')))
theorem LQ.qa {o o' : Option (tS ⊕ (Int32 × tS))} (h : LQ v t (uI t' 218 0 0) o o') (hv : v = 182 ∨ v = 196) (x : Int32) : QA (o.bind fun o29 => match o29 with | .inl tt27 => some (x, tt27) | .inr y30 => some y30) (o'.bind fun o29 => match o29 with | .inl tt27 => some (x, tt27) | .inr y30 => some y30) t t' := by
  obtain ⟨t1, t1', h1, h2, ⟨rfl, rfl⟩ | ⟨y, rfl, rfl⟩⟩ := h
  · exact ⟨_, _, _, rfl, rfl, h1.yq hv, (ZQ.th (.inl rfl)).tr (h2.zq (by decide))⟩
  · exact ⟨_, _, _, rfl, rfl, h1.yq hv, (ZQ.th (.inl rfl)).tr (h2.zq (by decide))⟩
theorem PQ.lin (h : PQ v nh nd st V n m S t0 t0' t t') : LQ v t0 t0' (some (.inl t)) (some (.inl t')) := ⟨t, t', h.fr.1, h.fr.2, .inl ⟨rfl, rfl⟩⟩
theorem PQ.rin (h : PQ v nh nd st V n m S t0 t0' t t') {y : Int32} : LQ v t0 t0' (some (.inr (y, t))) (some (.inr (y, t'))) := ⟨t, t', h.fr.1, h.fr.2, .inr ⟨y, rfl, rfl⟩⟩
theorem or_lt {c o k : Nat} (hc : c < 2 ^ k) (ho : o < 2 ^ k) : c ||| o < 2 ^ k := Nat.or_lt_two_pow hc ho
theorem PQ.nxL {d : Nat} (hd : d < nd) : ∀ (k i f f' n m : Nat) (S : Nat → Nat → Int32) (t t' : tS), PQ v nh nd st V n m S t0 t0' t t' → n + k < 900000 → i + k = 61 → k < f → k < f' → LQ v t0 t0' (tX9_next_L23 f (nI d) (nI i) t) (tX10_next_L11 f' (nI d) (nI i) t') := by
  intro k
  induction k with
  | zero =>
    intro i f f' n m S t t' h hn hi hf hf'
    obtain ⟨f, rfl⟩ : ∃ g, f = g + 1 := ⟨f - 1, by omega⟩
    obtain ⟨f', rfl⟩ : ∃ g, f' = g + 1 := ⟨f' - 1, by omega⟩
    have c1 : 60 < i := by omega
    rw [tX9_next_L23, tX10_next_L11]
    simp (disch := omega) only [tA_e, tA_l, tW0_e, tW0_l, nN_al, nN_la, nN_ad, nN_lm, nN_ml, nN_le, nN_lt, nN_eq, nN_lel, nN_lle, nN_ltl, nN_llt, nN_eql, nN_rm, nN_dv, ob_s, ob_2, ob_3, ite_true, ite_false, not_true_eq_false, not_false_eq_true, ite_self, eq_self, Nat.add_zero, c1]
    exact h.lin
  | succ k ih =>
    intro i f f' n m S t t' h hn hi hf hf'
    have h6 := h.1.h6
    obtain ⟨f, rfl⟩ : ∃ g, f = g + 1 := ⟨f - 1, by omega⟩
    obtain ⟨f', rfl⟩ : ∃ g, f' = g + 1 := ⟨f' - 1, by omega⟩
    have c1 : ¬ 60 < i := by omega
    have hi2 : inr (nI d) nd = true := by rw [inr_n (by omega)]; exact decide_eq_true hd
    obtain ⟨S1, c2, o1, t1, t1', e1, e2, e3, e4, ⟨k1, k2, k3, k4⟩, e6, e7, e8, e9⟩ := h.pass (by omega)
    have hor : c2 ||| o1 < 64 := or_lt (k := 6) e6 e7
    rw [tX9_next_L23, tX10_next_L11]
    simp (disch := omega) only [tA_e, tA_l, tW0_e, tW0_l, nN_al, nN_la, nN_ad, nN_lm, nN_ml, nN_le, nN_lt, nN_eq, nN_lel, nN_lle, nN_ltl, nN_llt, nN_eql, nN_rm, nN_dv, ob_s, ob_2, ob_3, ite_true, ite_false, not_true_eq_false, not_false_eq_true, ite_self, eq_self, Nat.add_zero, decide_true, decide_false, decide_not, Bool.not_true, Bool.not_false, Bool.true_and, Bool.false_and, Bool.and_true, Bool.and_false, Bool.or_true, Bool.true_or, Bool.or_false, Bool.false_or, if_true, if_false, Bool.false_eq_true, z01_0, z01_1, c1, h.isDay', hi2, bI_0, Bool.true_eq_false, e1, e2, k1, k2, k3, k4, nN_or, has_e, nN_bit, tb_1]
    have ih := ih (i + 1) f f' _ _ _ _ _ e3 (by omega) (by omega) (by omega) (by omega)
    cases (c2 ||| o1).testBit d
    · simp only [tA_e, tA_l, tW0_e, tW0_l, nN_al, nN_la, nN_ad, nN_lm, nN_ml, nN_le, nN_lt, nN_eq, nN_lel, nN_lle, nN_ltl, nN_llt, nN_eql, nN_rm, nN_dv, ob_s, ob_2, ob_3, ite_true, ite_false, not_true_eq_false, not_false_eq_true, ite_self, eq_self, Nat.add_zero, decide_true, decide_false, decide_not, Bool.not_true, Bool.not_false, Bool.true_and, Bool.false_and, Bool.and_true, Bool.and_false, Bool.or_true, Bool.true_or, Bool.or_false, Bool.false_or, if_true, if_false, Bool.false_eq_true, z01_0, z01_1]
      exact ih
    · simp only [tA_e, tA_l, tW0_e, tW0_l, nN_al, nN_la, nN_ad, nN_lm, nN_ml, nN_le, nN_lt, nN_eq, nN_lel, nN_lle, nN_ltl, nN_llt, nN_eql, nN_rm, nN_dv, ob_s, ob_2, ob_3, ite_true, ite_false, not_true_eq_false, not_false_eq_true, ite_self, eq_self, Nat.add_zero, decide_true, decide_false, decide_not, Bool.not_true, Bool.not_false, Bool.true_and, Bool.false_and, Bool.and_true, Bool.and_false, Bool.or_true, Bool.true_or, Bool.or_false, Bool.false_or, if_true, if_false, Bool.false_eq_true, z01_0, z01_1, Bool.true_eq_false]
      exact e3.rin
theorem q_next {N : Nat} (h : QR v nh nd st V N t t') (x : Int32) : QA (tX9_next x t) (tX10_next x t') t t' := by
  have hb := h.2.2.1.isDay h.2.1 (x := x)
  have h6 := h.2.2.1.1.2.1
  obtain ⟨n, m, S, t1, t1', e1, e2, e3, e4, e5, e6, e7, _⟩ := h.tries
  unfold tX9_next tX10_next
  simp only [hb.1, ob_s, bI_0, e1, e2]
  cases hi : inr x nd
  · have : tX10_next_L11 4000 x 1 t1' = some (.inl t1') := by
      rw [show 4000 = 3999 + 1 from rfl, tX10_next_L11]
      have c1 : ¬ (60 : Int32) < 1 := by decide
      simp only [tA_e, tA_l, tW0_e, tW0_l, nN_al, nN_la, nN_ad, nN_lm, nN_ml, nN_le, nN_lt, nN_eq, nN_lel, nN_lle, nN_ltl, nN_llt, nN_eql, nN_rm, nN_dv, ob_s, ob_2, ob_3, ite_true, ite_false, not_true_eq_false, not_false_eq_true, ite_self, eq_self, Nat.add_zero, c1, e3.isDay', hi, bI_0]
    rw [this]
    simp only [tA_e, tA_l, tW0_e, tW0_l, nN_al, nN_la, nN_ad, nN_lm, nN_ml, nN_le, nN_lt, nN_eq, nN_lel, nN_lle, nN_ltl, nN_llt, nN_eql, nN_rm, nN_dv, ob_s, ob_2, ob_3, ite_true, ite_false, not_true_eq_false, not_false_eq_true, ite_self, eq_self, Nat.add_zero, decide_true, decide_false, decide_not, Bool.not_true, Bool.not_false, Bool.true_and, Bool.false_and, Bool.and_true, Bool.and_false, Bool.or_true, Bool.true_or, Bool.or_false, Bool.false_or, if_true, if_false, Bool.false_eq_true, z01_0, z01_1]
    exact ⟨_, _, _, rfl, rfl, YQ.rf, (ZQ.th (.inl rfl)).tr (e3.fr.2.zq (by decide))⟩
  · obtain ⟨d, hd, rfl⟩ := inr_t hi
    simp only [tA_e, tA_l, tW0_e, tW0_l, nN_al, nN_la, nN_ad, nN_lm, nN_ml, nN_le, nN_lt, nN_eq, nN_lel, nN_lle, nN_ltl, nN_llt, nN_eql, nN_rm, nN_dv, ob_s, ob_2, ob_3, ite_true, ite_false, not_true_eq_false, not_false_eq_true, ite_self, eq_self, Nat.add_zero, decide_true, decide_false, decide_not, Bool.not_true, Bool.not_false, Bool.true_and, Bool.false_and, Bool.and_true, Bool.and_false, Bool.or_true, Bool.true_or, Bool.or_false, Bool.false_or, if_true, if_false, Bool.false_eq_true, z01_0, z01_1, Bool.true_eq_false]
    exact (PQ.nxL hd 60 1 4000 4000 n m S t1 t1' e3 (by omega) (by omega) (by omega) (by omega)).qa h.1 _
theorem PQ.goL {d : Nat} (hd : d < nd) : ∀ (k i f f' n m : Nat) (S : Nat → Nat → Int32) (t t' : tS), PQ v nh nd st V n m S t0 t0' t t' → n + k < 900000 → i + k = 100 → k < f → k < f' → LQ v t0 t0' (tX9_gone_L23 f (nI d) (nI i) t) (tX10_gone_L11 f' (nI d) (nI i) t') := by
  intro k
  induction k with
  | zero =>
    intro i f f' n m S t t' h hn hi hf hf'
    obtain ⟨f, rfl⟩ : ∃ g, f = g + 1 := ⟨f - 1, by omega⟩
    obtain ⟨f', rfl⟩ : ∃ g, f' = g + 1 := ⟨f' - 1, by omega⟩
    have c1 : 99 < i := by omega
    rw [tX9_gone_L23, tX10_gone_L11]
    simp (disch := omega) only [tA_e, tA_l, tW0_e, tW0_l, nN_al, nN_la, nN_ad, nN_lm, nN_ml, nN_le, nN_lt, nN_eq, nN_lel, nN_lle, nN_ltl, nN_llt, nN_eql, nN_rm, nN_dv, ob_s, ob_2, ob_3, ite_true, ite_false, not_true_eq_false, not_false_eq_true, ite_self, eq_self, Nat.add_zero, c1]
    exact h.lin
  | succ k ih =>
    intro i f f' n m S t t' h hn hi hf hf'
    have h6 := h.1.h6
    obtain ⟨f, rfl⟩ : ∃ g, f = g + 1 := ⟨f - 1, by omega⟩
    obtain ⟨f', rfl⟩ : ∃ g, f' = g + 1 := ⟨f' - 1, by omega⟩
    have c1 : ¬ 99 < i := by omega
    have hi2 : inr (nI d) nd = true := by rw [inr_n (by omega)]; exact decide_eq_true hd
    obtain ⟨S1, c2, o1, t1, t1', e1, e2, e3, _⟩ := h.pass (by omega)
    rw [tX9_gone_L23, tX10_gone_L11]
    simp (disch := omega) only [tA_e, tA_l, tW0_e, tW0_l, nN_al, nN_la, nN_ad, nN_lm, nN_ml, nN_le, nN_lt, nN_eq, nN_lel, nN_lle, nN_ltl, nN_llt, nN_eql, nN_rm, nN_dv, ob_s, ob_2, ob_3, ite_true, ite_false, not_true_eq_false, not_false_eq_true, ite_self, eq_self, Nat.add_zero, decide_true, decide_false, decide_not, Bool.not_true, Bool.not_false, Bool.true_and, Bool.false_and, Bool.and_true, Bool.and_false, Bool.or_true, Bool.true_or, Bool.or_false, Bool.false_or, if_true, if_false, Bool.false_eq_true, z01_0, z01_1, c1, h.isDay', hi2, bI_0, Bool.true_eq_false, e1, e2, h.c3 hd, h.m3 hd]
    have ih := ih (i + 1) f f' _ _ _ _ _ e3 (by omega) (by omega) (by omega) (by omega)
    by_cases c : S 3 d = 0
    · simp only [tA_e, tA_l, tW0_e, tW0_l, nN_al, nN_la, nN_ad, nN_lm, nN_ml, nN_le, nN_lt, nN_eq, nN_lel, nN_lle, nN_ltl, nN_llt, nN_eql, nN_rm, nN_dv, ob_s, ob_2, ob_3, ite_true, ite_false, not_true_eq_false, not_false_eq_true, ite_self, eq_self, Nat.add_zero, decide_true, decide_false, decide_not, Bool.not_true, Bool.not_false, Bool.true_and, Bool.false_and, Bool.and_true, Bool.and_false, Bool.or_true, Bool.true_or, Bool.or_false, Bool.false_or, if_true, if_false, Bool.false_eq_true, z01_0, z01_1, eq_true c]
      exact h.rin
    · simp only [tA_e, tA_l, tW0_e, tW0_l, nN_al, nN_la, nN_ad, nN_lm, nN_ml, nN_le, nN_lt, nN_eq, nN_lel, nN_lle, nN_ltl, nN_llt, nN_eql, nN_rm, nN_dv, ob_s, ob_2, ob_3, ite_true, ite_false, not_true_eq_false, not_false_eq_true, ite_self, eq_self, Nat.add_zero, decide_true, decide_false, decide_not, Bool.not_true, Bool.not_false, Bool.true_and, Bool.false_and, Bool.and_true, Bool.and_false, Bool.or_true, Bool.true_or, Bool.or_false, Bool.false_or, if_true, if_false, Bool.false_eq_true, z01_0, z01_1, c]
      exact ih
theorem q_gone {N : Nat} (h : QR v nh nd st V N t t') (x : Int32) : QA (tX9_gone x t) (tX10_gone x t') t t' := by
  have hb := h.2.2.1.isDay h.2.1 (x := x)
  have h6 := h.2.2.1.1.2.1
  obtain ⟨n, m, S, t1, t1', e1, e2, e3, e4, e5, e6, e7, _⟩ := h.tries
  unfold tX9_gone tX10_gone
  simp only [hb.1, ob_s, bI_0, e1, e2]
  cases hi : inr x nd
  · have : tX10_gone_L11 4000 x 0 t1' = some (.inl t1') := by
      rw [show 4000 = 3999 + 1 from rfl, tX10_gone_L11]
      have c1 : ¬ (99 : Int32) < 0 := by decide
      simp only [tA_e, tA_l, tW0_e, tW0_l, nN_al, nN_la, nN_ad, nN_lm, nN_ml, nN_le, nN_lt, nN_eq, nN_lel, nN_lle, nN_ltl, nN_llt, nN_eql, nN_rm, nN_dv, ob_s, ob_2, ob_3, ite_true, ite_false, not_true_eq_false, not_false_eq_true, ite_self, eq_self, Nat.add_zero, c1, e3.isDay', hi, bI_0]
    rw [this]
    simp only [tA_e, tA_l, tW0_e, tW0_l, nN_al, nN_la, nN_ad, nN_lm, nN_ml, nN_le, nN_lt, nN_eq, nN_lel, nN_lle, nN_ltl, nN_llt, nN_eql, nN_rm, nN_dv, ob_s, ob_2, ob_3, ite_true, ite_false, not_true_eq_false, not_false_eq_true, ite_self, eq_self, Nat.add_zero, decide_true, decide_false, decide_not, Bool.not_true, Bool.not_false, Bool.true_and, Bool.false_and, Bool.and_true, Bool.and_false, Bool.or_true, Bool.true_or, Bool.or_false, Bool.false_or, if_true, if_false, Bool.false_eq_true, z01_0, z01_1]
    exact ⟨_, _, _, rfl, rfl, YQ.rf, (ZQ.th (.inl rfl)).tr (e3.fr.2.zq (by decide))⟩
  · obtain ⟨d, hd, rfl⟩ := inr_t hi
    simp only [tA_e, tA_l, tW0_e, tW0_l, nN_al, nN_la, nN_ad, nN_lm, nN_ml, nN_le, nN_lt, nN_eq, nN_lel, nN_lle, nN_ltl, nN_llt, nN_eql, nN_rm, nN_dv, ob_s, ob_2, ob_3, ite_true, ite_false, not_true_eq_false, not_false_eq_true, ite_self, eq_self, Nat.add_zero, decide_true, decide_false, decide_not, Bool.not_true, Bool.not_false, Bool.true_and, Bool.false_and, Bool.and_true, Bool.and_false, Bool.or_true, Bool.true_or, Bool.or_false, Bool.false_or, if_true, if_false, Bool.false_eq_true, z01_0, z01_1, Bool.true_eq_false]
    exact (PQ.goL hd 100 0 4000 4000 n m S t1 t1' e3 (by omega) (by omega) (by omega) (by omega)).qa h.1 _
end
