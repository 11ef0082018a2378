/-! ===== PURE: long numbers; ages ===== -/
section
variable {v nh nd st a b n m : Nat} {V : Nat → Nat → Nat} {S : Nat → Nat → Int32} {t0 t0' t t' : tS}
def nL (k : Nat) : Int64 := Int64.ofNat k
theorem nL_toInt {x : Nat} (h : x < 9223372036854775808) : (nL x).toInt = (x : Int) := Int64.toInt_ofNat_of_lt h
theorem nL_ad (x y : Nat) : nL x + nL y = nL (x + y) := (Int64.ofNat_add x y).symm
theorem nL_mu (x y : Nat) : nL x * nL y = nL (x * y) := (Int64.ofNat_mul x y).symm
theorem nL_su {x y : Nat} (h : y ≤ x) : nL x - nL y = nL (x - y) := by
  have : nL x = nL (x - y) + nL y := by rw [nL_ad]; congr 1; omega
  rw [this]
  exact Int64.add_sub_cancel _ _
theorem nL_di {x y : Nat} (ha : x < 9223372036854775808) (hb : y < 9223372036854775808) : nL x / nL y = nL (x / y) := by
  apply Int64.toInt_inj.1
  rw [Int64.toInt_div_of_ne_left, nL_toInt ha, nL_toInt hb, nL_toInt]
  · rfl
  · exact Nat.lt_of_le_of_lt (Nat.div_le_self _ _) ha
  · intro h
    have := congrArg Int64.toInt h
    rw [nL_toInt ha] at this
    have h2 : Int64.minValue.toInt = -9223372036854775808 := by decide
    omega
theorem nL_eq {x y : Nat} (ha : x < 9223372036854775808) (hb : y < 9223372036854775808) : nL x = nL y ↔ x = y := by
  constructor
  · intro h
    have := congrArg Int64.toInt h
    rw [nL_toInt ha, nL_toInt hb] at this
    omega
  · intro h
    rw [h]
theorem nL_rm {x y : Nat} (ha : x < 9223372036854775808) (hb : y < 9223372036854775808) (h0 : 0 < y) : am_rmL (nL x) (nL y) = some (nL (x % y)) := by
  unfold am_rmL
  rw [if_neg, nL_di ha hb, nL_mu, nL_su (Nat.div_mul_le_self x y)]
  · congr 2
    have := Nat.div_add_mod x y
    rw [Nat.mul_comm] at this
    omega
  · intro h
    have := (nL_eq (y := 0) hb (by decide)).1 h
    omega
theorem nL_dv {x y : Nat} (ha : x < 9223372036854775808) (hb : y < 9223372036854775808) (h0 : 0 < y) : am_dvL (nL x) (nL y) = some (nL (x / y)) := by
  unfold am_dvL
  rw [if_neg, nL_di ha hb]
  intro h
  have := (nL_eq (y := 0) hb (by decide)).1 h
  omega
theorem nI_64 {k : Nat} (h : k < 2147483648) : (nI k).toInt64 = nL k := by
  apply Int32.toInt64_ofNat'
  have : Int32.maxValue.toInt = 2147483647 := by decide
  omega
theorem nL_32 {k : Nat} : (nL k).toInt32 = nI k := Int64.toInt32_ofNat'
/-- the next number of the draws -/
def dg (g : Nat) : Nat := (g * 1103515245 + 12345) % 2147483648
theorem dg_lt {g : Nat} : dg g < 2147483648 := Nat.mod_lt _ (by decide)
theorem dg_e {g : Nat} (h : g < 2147483648) : am_rmL (nL g * (1103515245 : Int64) + (12345 : Int64)) (2147483648 : Int64) = some (nL (dg g)) := by
  rw [show (1103515245 : Int64) = nL 1103515245 from rfl, show (12345 : Int64) = nL 12345 from rfl, show (2147483648 : Int64) = nL 2147483648 from rfl, nL_mu, nL_ad, nL_rm (by omega) (by omega) (by omega)]
  rfl
theorem uJ_s {k : Nat} {x : Int64} : (uJ t a k x).2.2.2.1 a k = x := by
  show up2 _ _ _ _ _ _ = _
  exact up2_s
theorem draw_e {g M : Nat} (hg : g < 2147483648) (hM : 0 < M) (hM2 : M < 100) (h1 : t.2.2.2.1 0 13 = nL g) (h2 : t'.2.2.2.1 218 31 = nL g) : tX9_drawBelow (nI M) t = some (nI (dg g / 65536 % M), uJ t 0 13 (nL (dg g))) ∧ tX10_draw (nI M) t' = some (nI (dg g / 65536 % M), uJ t' 218 31 (nL (dg g))) := by
  have q1 := dg_lt (g := g)
  have q2 : dg g / 65536 ≤ dg g := Nat.div_le_self _ _
  have c : ¬ nI M ≤ 0 := by
    rw [show (0 : Int32) = nI 0 from rfl, nN_le (by omega) (by omega)]
    omega
  have e1 : am_dvL (nL (dg g)) (65536 : Int64) = some (nL (dg g / 65536)) := by
    rw [show (65536 : Int64) = nL 65536 from rfl, nL_dv (by omega) (by omega) (by omega)]
  constructor
  · unfold tX9_drawBelow
    rw [h1, dg_e hg, ob_s, ob_s, if_neg c, uJ_s, e1, ob_s, nI_64 (by omega), nL_rm (by omega) (by omega) hM, ob_s, nL_32]
    rfl
  · unfold tX10_draw
    rw [h2, dg_e hg, ob_s, ob_s, uJ_s, e1, ob_s, nI_64 (by omega), nL_rm (by omega) (by omega) hM, ob_s, nL_32]
/-- the class's stand ahead and the reference's other one, and the draws -/
def AG (v nh nd st : Nat) (V : Nat → Nat → Nat) (n m : Nat) (S : Nat → Nat → Int32) (g : Nat) (t0 t0' t t' : tS) : Prop := PR v nh nd st V 10 1034 n m S t t' t t' ∧ SK nh nd st S ∧ t.2.2.2.2 0 9 = v ∧ t.2.2.2.1 0 13 = nL g ∧ t'.2.2.2.1 218 31 = nL g ∧ g < 2147483648 ∧ YQ t0 t ∧ ZQ t0' t'
theorem AG.uj {g g1 : Nat} (h : AG v nh nd st V n m S g t0 t0' t t') (hg : g1 < 2147483648) : AG v nh nd st V n m S g1 t0 t0' (uJ t 0 13 (nL g1)) (uJ t' 218 31 (nL g1)) := by
  obtain ⟨⟨h1, h2, h3, h4, h5, h6, h7, h8, h9⟩, k2, k3, k4, k5, k6, k7, k8⟩ := h
  exact ⟨⟨h1, h2, h3, h4, h5, h6, h7, CF.rf, MF.rf⟩, k2, k3, uJ_s, uJ_s, hg, k7, k8⟩
theorem AG.go {g n1 m1 : Nat} {S1 : Nat → Nat → Int32} {t1 t1' : tS} (h : AG v nh nd st V n m S g t0 t0' t t') (hv : v = 182 ∨ v = 196) (hp : PR v nh nd st V 10 1034 n1 m1 S1 t t' t1 t1') (hs : SK nh nd st S1) : AG v nh nd st V n1 m1 S1 g t0 t0' t1 t1' := by
  obtain ⟨_, _, k3, k4, k5, k6, k7, k8⟩ := h
  have f1 := hp.2.2.2.2.2.2.2.1
  have f2 := hp.2.2.2.2.2.2.2.2
  exact ⟨hp.bs, hs, by rw [f1.2.2]; exact k3, by rw [f1.2.2]; exact k4, by rw [f2.2.2]; exact k5, k6, k7.tr (f1.yq hv), k8.tr (f2.zq (by decide))⟩
theorem AG.act {g : Nat} (h : AG v nh nd st V n m S g t0 t0' t t') (hv : v = 182 ∨ v = 196) (hd : 0 < nd) : ∃ S1 g1 t1 t1', tX9_actByDraw t = some t1 ∧ tX10_drawsDeed t' = some t1' ∧ AG v nh nd st V n m S1 g1 t0 t0' t1 t1' := by
  have h6 := h.1.h6
  have h4 := h.1.h4
  have hh : 0 < nh := by have := h.1.hm hd; omega
  obtain ⟨a1, a2⟩ := draw_e (M := 6) h.2.2.2.2.2.1 (by omega) (by omega) h.2.2.2.1 h.2.2.2.2.1
  have a1' : tX9_drawBelow 6 t = _ := a1
  have a2' : tX10_draw 6 t' = _ := a2
  have A := h.uj (dg_lt (g := g))
  unfold tX9_actByDraw tX10_drawsDeed
  rw [a1', a2', ob_2, ob_2]
  have hr : dg g / 65536 % 6 < 6 := Nat.mod_lt _ (by decide)
  generalize dg g / 65536 % 6 = r at hr
  generalize uJ t 0 13 (nL (dg g)) = T at A
  generalize uJ t' 218 31 (nL (dg g)) = T' at A
  obtain ⟨b1, b2⟩ := draw_e (M := nd) A.2.2.2.2.2.1 hd (by omega) A.2.2.2.1 A.2.2.2.2.1
  have B := A.uj (dg_lt (g := dg g))
  have hd1 : dg (dg g) / 65536 % nd < nd := Nat.mod_lt _ hd
  have r1 := A.2.2.1
  have r2 := A.1.cd
  have r3 := A.1.days
  simp (disch := omega) only [nN_eql, r1, r2, r3, ob_s, b1, b2, ob_2]
  generalize dg (dg g) / 65536 % nd = d at hd1
  generalize uJ T 0 13 (nL (dg (dg g))) = U at B
  generalize uJ T' 218 31 (nL (dg (dg g))) = U' at B
  by_cases c0 : r = 0
  · have gm := NN.m1 (by omega) (B.2.1 d hd1).2.2.1
    obtain ⟨l1, l2, l3⟩ := B.1.leave hd1
    have l2' : tX10_leaves 1034 (nI d) U' = _ := l2
    have k4 : U.2.1 14 d = S 4 d := B.1.c4 hd1
    have k5 : U'.2.1 234 (1040 + d) = S 4 d := B.1.m4 hd1
    simp (disch := omega) only [tA_e, tA_l, tW0_e, tW0_l, nN_al, nN_la, nN_ad, nN_lm, nN_ml, nN_le, nN_lt, nN_eq, nN_lel, nN_lle, nN_ltl, nN_llt, nN_eql, nN_rm, nN_dv, ob_s, ob_2, ob_3, ite_true, ite_false, not_true_eq_false, not_false_eq_true, ite_self, eq_self, Nat.add_zero, eq_true c0, k4, k5, gm.1, l1, l2']
    by_cases c1 : S 4 d = -1
    · simp only [tA_e, tA_l, tW0_e, tW0_l, nN_al, nN_la, nN_ad, nN_lm, nN_ml, nN_le, nN_lt, nN_eq, nN_lel, nN_lle, nN_ltl, nN_llt, nN_eql, nN_rm, nN_dv, ob_s, ob_2, ob_3, ite_true, ite_false, not_true_eq_false, not_false_eq_true, ite_self, eq_self, Nat.add_zero, eq_true c1]
      exact ⟨_, _, _, _, rfl, rfl, B⟩
    · simp only [tA_e, tA_l, tW0_e, tW0_l, nN_al, nN_la, nN_ad, nN_lm, nN_ml, nN_le, nN_lt, nN_eq, nN_lel, nN_lle, nN_ltl, nN_llt, nN_eql, nN_rm, nN_dv, ob_s, ob_2, ob_3, ite_true, ite_false, not_true_eq_false, not_false_eq_true, ite_self, eq_self, Nat.add_zero, c1]
      exact ⟨_, _, _, _, rfl, rfl, B.go hv l3 (B.2.1.lv B.1.s1.1)⟩
  · by_cases c1 : r = 1
    · obtain ⟨e1, e2⟩ := draw_e (M := nh) B.2.2.2.2.2.1 hh (by omega) B.2.2.2.1 B.2.2.2.2.1
      have C := B.uj (dg_lt (g := dg (dg g)))
      have hj : dg (dg (dg g)) / 65536 % nh < nh := Nat.mod_lt _ hh
      have s1 := B.2.2.1
      have s2 := B.1.ch
      have s3 := B.1.houses
      simp (disch := omega) only [tA_e, tA_l, tW0_e, tW0_l, nN_al, nN_la, nN_ad, nN_lm, nN_ml, nN_le, nN_lt, nN_eq, nN_lel, nN_lle, nN_ltl, nN_llt, nN_eql, nN_rm, nN_dv, ob_s, ob_2, ob_3, ite_true, ite_false, not_true_eq_false, not_false_eq_true, ite_self, eq_self, Nat.add_zero, c0, eq_true c1, s1, s2, s3, e1, e2]
      generalize dg (dg (dg g)) / 65536 % nh = j at hj
      generalize uJ U 0 13 (nL (dg (dg (dg g)))) = W at C
      generalize uJ U' 218 31 (nL (dg (dg (dg g)))) = W' at C
      obtain ⟨u1, u2⟩ := C.1.canShift C.2.1 hd1 hj
      have u2' : tX10_mayMove 1034 (nI d) (nI j) W' = some (bI (shf V S nd d j)) := u2
      have s4 := C.2.2.1
      unfold tX6_shift
      simp (disch := omega) only [tA_e, tA_l, tW0_e, tW0_l, nN_al, nN_la, nN_ad, nN_lm, nN_ml, nN_le, nN_lt, nN_eq, nN_lel, nN_lle, nN_ltl, nN_llt, nN_eql, nN_rm, nN_dv, ob_s, ob_2, ob_3, ite_true, ite_false, not_true_eq_false, not_false_eq_true, ite_self, eq_self, Nat.add_zero, s4, u1, u2', bI_0]
      cases shf V S nd d j
      · simp (disch := omega) only [tA_e, tA_l, tW0_e, tW0_l, nN_al, nN_la, nN_ad, nN_lm, nN_ml, nN_le, nN_lt, nN_eq, nN_lel, nN_lle, nN_ltl, nN_llt, nN_eql, nN_rm, nN_dv, ob_s, ob_2, ob_3, ite_true, ite_false, not_true_eq_false, not_false_eq_true, ite_self, eq_self, Nat.add_zero]
        exact ⟨_, _, _, _, rfl, rfl, C⟩
      · have w := C.1.w4 (x := nI j) hd1
        simp (disch := omega) only [tA_e, tA_l, tW0_e, tW0_l, nN_al, nN_la, nN_ad, nN_lm, nN_ml, nN_le, nN_lt, nN_eq, nN_lel, nN_lle, nN_ltl, nN_llt, nN_eql, nN_rm, nN_dv, ob_s, ob_2, ob_3, ite_true, ite_false, not_true_eq_false, not_false_eq_true, ite_self, eq_self, Nat.add_zero, Bool.true_eq_false]
        exact ⟨_, _, _, _, rfl, rfl, C.go hv w (C.2.1.w4 (.inr ⟨j, hj, rfl⟩))⟩
    · simp (disch := omega) only [tA_e, tA_l, tW0_e, tW0_l, nN_al, nN_la, nN_ad, nN_lm, nN_ml, nN_le, nN_lt, nN_eq, nN_lel, nN_lle, nN_ltl, nN_llt, nN_eql, nN_rm, nN_dv, ob_s, ob_2, ob_3, ite_true, ite_false, not_true_eq_false, not_false_eq_true, ite_self, eq_self, Nat.add_zero, c0, c1]
      exact ⟨_, _, _, _, rfl, rfl, A⟩
theorem AG.pass {g : Nat} (h : AG v nh nd st V n m S g t0 t0' t t') (hv : v = 182 ∨ v = 196) (hn : n + 1 < 1000000) : ∃ S1 c1 o1 t1 t1', tX6_passDate 10 v t = some t1 ∧ tX10_passes 1034 t' = some t1' ∧ AG v nh nd st V (n + 1) (m + pc o1) S1 g t0 t0' t1 t1' ∧ CO 10 c1 o1 t1 t1' ∧ c1 < 64 ∧ o1 < 64 := by
  obtain ⟨S1, c1, o1, t1, t1', e1, e2, e3, e4, e5, e6, e7, e8, _⟩ := h.1.pass h.2.1 hn
  exact ⟨S1, c1, o1, t1, t1', e1, e2, h.go hv e3 e4, e6, e7, e8⟩
theorem AG.agL {K : Nat} {z : Int32} (hK : K < 1000) (hv : v = 182 ∨ v = 196) {m0 : Nat} : ∀ (k i f f' n m g : Nat) (x : Int32) (S : Nat → Nat → Int32) (t t' : tS), AG v nh nd st V n m S g t0 t0' t t' → m0 ≤ m → n + k < 900000 → m + 6 * k < 900000 → i + k = K → k < f → k < f' → ∃ r n1 m1 g1 S1 t1 t1', tX9_ages_L58 f (nI K) z x (nI (m - m0)) (nI i) t = some (r, nI (m1 - m0), t1) ∧ tX10_ages_L59 f' (nI K) z x (nI i) t' = some (r, t1') ∧ AG v nh nd st V n1 m1 S1 g1 t0 t0' t1 t1' ∧ m0 ≤ m1 ∧ m1 < 900000 := by
  intro k
  induction k with
  | zero =>
    intro i f f' n m g x S t t' h hm0 hn hm hi hf hf'
    obtain ⟨f, rfl⟩ : ∃ g, f = g + 1 := ⟨f - 1, by omega⟩
    obtain ⟨f', rfl⟩ : ∃ g, f' = g + 1 := ⟨f' - 1, by omega⟩
    obtain rfl : i = K := by omega
    rw [tX9_ages_L58, tX10_ages_L59]
    simp (disch := omega) only [tA_e, tA_l, tW0_e, tW0_l, nN_al, nN_la, nN_ad, nN_lm, nN_ml, nN_le, nN_lt, nN_eq, nN_lel, nN_lle, nN_ltl, nN_llt, nN_eql, nN_rm, nN_dv, ob_s, ob_2, ob_3, ite_true, ite_false, not_true_eq_false, not_false_eq_true, ite_self, eq_self, Nat.add_zero, Nat.le_refl]
    exact ⟨_, _, _, _, _, _, _, rfl, rfl, h, hm0, by omega⟩
  | succ k ih =>
    intro i f f' n m g x S t t' h hm0 hn hm hi hf hf'
    have h6 := h.1.h6
    obtain ⟨f, rfl⟩ : ∃ g, f = g + 1 := ⟨f - 1, by omega⟩
    obtain ⟨f', rfl⟩ : ∃ g, f' = g + 1 := ⟨f' - 1, by omega⟩
    have c1 : ¬ K ≤ i := by omega
    have fin : ∀ (g : Nat) (S : Nat → Nat → Int32) (T T' : tS), AG v nh nd st V n m S g t0 t0' T T' → ∃ r n1 m1 g1 S1 t1 t1', ((tX6_passDate 10 (T.2.2.2.2 0 9) T).bind fun tt39 => (tJ6_bitCount_0f7a4 (tt39.1 10 9) tt39).bind fun x43 => (tJ6_bitCount_0f7a4 (tt39.1 10 10) tt39).bind fun x48 => tX9_ages_L58 f (nI K) z (x + x43) (nI (m - m0) + x48) (nI (i + 1)) tt39) = some (r, nI (m1 - m0), t1) ∧ ((tX10_passes 1034 T').bind fun tt36 => (tX10_bits (tt36.1 218 28) tt36).bind fun x39 => tX10_ages_L59 f' (nI K) z (x + x39) (nI (i + 1)) tt36) = some (r, t1') ∧ AG v nh nd st V n1 m1 S1 g1 t0 t0' t1 t1' ∧ m0 ≤ m1 ∧ m1 < 900000 := by
      intro g S T T' H
      obtain ⟨S1, c2, o1, t1, t1', e1, e2, e3, ⟨k1, k2, k3, k4⟩, e6, e7⟩ := H.pass hv (by omega)
      have p6 : pc o1 ≤ 6 := pcn_le o1 6
      simp only [H.2.2.1, e1, e2, ob_s, k1, k2, k3, bc_e e6, bc_e e7, bits_e e6, nN_ad]
      have := ih (i + 1) f f' (n + 1) (m + pc o1) g (x + nI (pc c2)) S1 t1 t1' e3 (by omega) (by omega) (by omega) (by omega) (by omega) (by omega)
      rw [show m + pc o1 - m0 = m - m0 + pc o1 from by omega] at this
      exact this
    rw [tX9_ages_L58, tX10_ages_L59]
    have r1 := h.2.2.1
    have r2 := h.1.cd
    have r3 := h.1.days
    simp (disch := omega) only [nN_le, nN_lel, nN_al, c1, r1, r2, r3, ob_s, ite_false]
    by_cases c : nd ≤ 0
    · have F := fin g S t t' h
      rw [r1] at F
      simp only [eq_true c, ite_true, ob_s, r1]
      exact F
    · obtain ⟨S1, g1, T, T', a1, a2, a3⟩ := h.act hv (by omega)
      simp only [c, ite_false, a1, a2, ob_s]
      exact fin g1 S1 T T' a3
theorem AG.taL {g : Nat} (h : AG v nh nd st V n m S g t0 t0' t t') {a1 a2 : Int32} : ∀ (k i f f' : Nat) (x : Int32), i + k = nd → k < f → k < f' → ∃ r, tX6_talkOfAll_L4 f 10 v x (nI i) t = some r ∧ tX10_ages_L107 f' a1 a2 x (nI i) t' = some r := by
  have h6 := h.1.h6
  intro k
  induction k with
  | zero =>
    intro i f f' x hi hf hf'
    obtain ⟨f, rfl⟩ : ∃ g, f = g + 1 := ⟨f - 1, by omega⟩
    obtain ⟨f', rfl⟩ : ∃ g, f' = g + 1 := ⟨f' - 1, by omega⟩
    obtain rfl : i = nd := by omega
    rw [tX6_talkOfAll_L4, tX10_ages_L107]
    simp (disch := omega) only [tA_e, tA_l, tW0_e, tW0_l, nN_al, nN_la, nN_ad, nN_lm, nN_ml, nN_le, nN_lt, nN_eq, nN_lel, nN_lle, nN_ltl, nN_llt, nN_eql, nN_rm, nN_dv, ob_s, ob_2, ob_3, ite_true, ite_false, not_true_eq_false, not_false_eq_true, ite_self, eq_self, Nat.add_zero, h.1.cd, h.1.days, Nat.le_refl]
    exact ⟨_, rfl, rfl⟩
  | succ k ih =>
    intro i f f' x hi hf hf'
    obtain ⟨f, rfl⟩ : ∃ g, f = g + 1 := ⟨f - 1, by omega⟩
    obtain ⟨f', rfl⟩ : ∃ g, f' = g + 1 := ⟨f' - 1, by omega⟩
    have c1 : ¬ nd ≤ i := by omega
    have hd : i < nd := by omega
    have k4 : t.2.1 (10 + 3) i = S 3 i := h.1.c3 hd
    have k5 : t'.2.1 234 (1052 + i) = S 3 i := h.1.m3 hd
    rw [tX6_talkOfAll_L4, tX10_ages_L107]
    simp (disch := omega) only [tA_e, tA_l, tW0_e, tW0_l, nN_al, nN_la, nN_ad, nN_lm, nN_ml, nN_le, nN_lt, nN_eq, nN_lel, nN_lle, nN_ltl, nN_llt, nN_eql, nN_rm, nN_dv, ob_s, ob_2, ob_3, ite_true, ite_false, not_true_eq_false, not_false_eq_true, ite_self, eq_self, Nat.add_zero, h.1.cd, h.1.days, c1, k4, k5]
    exact ih (i + 1) f f' _ (by omega) (by omega) (by omega)
theorem q_ages {w p q N : Nat} (h : GP v w p q nh nd st V N t t') (x y z : Int32) : QA (tX9_ages x y z t) (tX10_ages x y z t') t t' := by
  have h4 := h.h4
  have h6 := h.h6
  have hv := h.qr.1
  unfold tX9_ages tX10_ages
  simp only [ob_s, wi_e.1, wi_e.2, bI_0]
  cases hx : decide ((0 : Int32) ≤ x ∧ x ≤ 9999)
  · simp only [tA_e, tA_l, tW0_e, tW0_l, nN_al, nN_la, nN_ad, nN_lm, nN_ml, nN_le, nN_lt, nN_eq, nN_lel, nN_lle, nN_ltl, nN_llt, nN_eql, nN_rm, nN_dv, ob_s, ob_2, ob_3, ite_true, ite_false, not_true_eq_false, not_false_eq_true, ite_self, eq_self, Nat.add_zero, decide_true, decide_false, decide_not, Bool.not_true, Bool.not_false, Bool.true_and, Bool.false_and, Bool.and_true, Bool.and_false, Bool.or_true, Bool.true_or, Bool.or_false, Bool.false_or, if_true, if_false, Bool.false_eq_true, z01_0, z01_1]
    exact QA.no
  · cases hy : decide ((1 : Int32) ≤ y ∧ y ≤ 99)
    · simp only [tA_e, tA_l, tW0_e, tW0_l, nN_al, nN_la, nN_ad, nN_lm, nN_ml, nN_le, nN_lt, nN_eq, nN_lel, nN_lle, nN_ltl, nN_llt, nN_eql, nN_rm, nN_dv, ob_s, ob_2, ob_3, ite_true, ite_false, not_true_eq_false, not_false_eq_true, ite_self, eq_self, Nat.add_zero, decide_true, decide_false, decide_not, Bool.not_true, Bool.not_false, Bool.true_and, Bool.false_and, Bool.and_true, Bool.and_false, Bool.or_true, Bool.true_or, Bool.or_false, Bool.false_or, if_true, if_false, Bool.false_eq_true, z01_0, z01_1, Bool.true_eq_false]
      exact QA.no
    · cases hz : decide ((0 : Int32) ≤ z ∧ z ≤ 2)
      · simp only [tA_e, tA_l, tW0_e, tW0_l, nN_al, nN_la, nN_ad, nN_lm, nN_ml, nN_le, nN_lt, nN_eq, nN_lel, nN_lle, nN_ltl, nN_llt, nN_eql, nN_rm, nN_dv, ob_s, ob_2, ob_3, ite_true, ite_false, not_true_eq_false, not_false_eq_true, ite_self, eq_self, Nat.add_zero, decide_true, decide_false, decide_not, Bool.not_true, Bool.not_false, Bool.true_and, Bool.false_and, Bool.and_true, Bool.and_false, Bool.or_true, Bool.true_or, Bool.or_false, Bool.false_or, if_true, if_false, Bool.false_eq_true, z01_0, z01_1, Bool.true_eq_false]
        exact QA.no
      · obtain ⟨sd, _, hsd, rfl⟩ := wi_n (lo := 0) (hi := 9999) (by decide) (by decide) hx
        obtain ⟨K, _, hK, rfl⟩ := wi_n (lo := 1) (hi := 99) (by decide) (by decide) hy
        obtain ⟨n, m, S, s1, s2, s3, s4, s5, s6, s7⟩ := h.2.2.2.2.1
        have hN := h.2.2.2.2.2.2.2.2.2.2.2.2
        have b : BR v nh nd st V (uJ t 0 13 (nL sd)) (uI t' 218 0 0) := h.2.2.2.1
        have s1' : CS nh nd 3 n m S (uJ t 0 13 (nL sd)) := s1
        have s2' : MS nh nd 0 n m S (uI t' 218 0 0) := s2
        obtain ⟨T, T', e1, e2, e3, e4, e5⟩ := b.try (a2 := 10) (b2 := 1034) s1' s2' (by omega) (by omega) (by omega) (by omega) (by omega)
        have e2' : tX10_copies 0 1034 30 (uI t' 218 0 0) = some T' := e2
        have hyT : YQ t T := YQ.tr (t1 := uJ t 0 13 (nL sd)) ⟨fun _ _ _ => rfl, fun _ _ _ _ _ _ => rfl, rfl, rfl⟩ ((e4.cf (v := v)).yq hv)
        have hzT : ZQ t' (uJ T' 218 31 (nL sd)) := ((ZQ.th (.inl rfl)).tr (e5.mf.zq (by decide))).tr ⟨fun _ _ _ => rfl, fun _ _ _ _ _ _ => rfl, rfl, rfl⟩
        have ag : AG v nh nd st V n m S sd t t' T (uJ T' 218 31 (nL sd)) := by
          obtain ⟨p1, p2, p3, p4, p5, p6, p7, p8, p9⟩ := e3
          refine ⟨⟨p1, p2, p3, p4, p5, p6, p7, CF.rf, MF.rf⟩, s3, ?_, ?_, uJ_s, by omega, hyT, hzT⟩
          · rw [e4.2.2]
            exact h.2.2.1.1
          · rw [e4.2.2, uJ_s]
        obtain ⟨r, n1, m1, g1, S1, T1, T1', a1, a2, a3, a4, a5⟩ := AG.agL (z := z) (K := K) (by omega) hv (m0 := m) K 0 4000 4000 n m sd 0 S T _ ag (Nat.le_refl _) (by omega) (by omega) (by omega) (by omega) (by omega)
        obtain ⟨u, u1, u2⟩ := a3.taL (a1 := z) (a2 := r) nd 0 4000 4000 0 (by omega) (by omega) (by omega)
        rw [Nat.sub_self, show nI 0 = (0 : Int32) from rfl] at a1
        rw [show nI 0 = (0 : Int32) from rfl] at a2 u1 u2
        have rv := a3.2.2.1
        have o1 : T1'.2.1 234 1035 = nI m1 := a3.1.mo
        have o2 : T1'.2.1 234 1 = nI m := by
          rw [a3.2.2.2.2.2.2.2.2.1 _ _ (by omega) (by omega) (by omega) (by omega)]
          exact s2.2.1
        have fin : ∀ y : Int32, QA (some (y, T1)) (some (y, T1')) t t' := fun y => ⟨_, _, _, rfl, rfl, a3.2.2.2.2.2.2.1, a3.2.2.2.2.2.2.2⟩
        unfold tX6_talkOfAll
        simp (disch := omega) only [tA_e, tA_l, tW0_e, tW0_l, nN_al, nN_la, nN_ad, nN_lm, nN_ml, nN_le, nN_lt, nN_eq, nN_lel, nN_lle, nN_ltl, nN_llt, nN_eql, nN_rm, nN_dv, ob_s, ob_2, ob_3, ite_true, ite_false, not_true_eq_false, not_false_eq_true, ite_self, eq_self, Nat.add_zero, decide_true, decide_false, decide_not, Bool.not_true, Bool.not_false, Bool.true_and, Bool.false_and, Bool.and_true, Bool.and_false, Bool.or_true, Bool.true_or, Bool.or_false, Bool.false_or, if_true, if_false, Bool.false_eq_true, z01_0, z01_1, Bool.true_eq_false, nI_64, e1, e2', a1, a2, u2, o1, o2, nN_su a4, rv, u1]
        by_cases c0 : z = 0
        · have c2 : ¬ z = 2 := by rw [c0]; decide
          simp only [tA_e, tA_l, tW0_e, tW0_l, nN_al, nN_la, nN_ad, nN_lm, nN_ml, nN_le, nN_lt, nN_eq, nN_lel, nN_lle, nN_ltl, nN_llt, nN_eql, nN_rm, nN_dv, ob_s, ob_2, ob_3, ite_true, ite_false, not_true_eq_false, not_false_eq_true, ite_self, eq_self, Nat.add_zero, eq_true c0, c2]
          exact fin _
        · by_cases c1 : z = 1
          · have c2 : ¬ z = 2 := by rw [c1]; decide
            simp only [tA_e, tA_l, tW0_e, tW0_l, nN_al, nN_la, nN_ad, nN_lm, nN_ml, nN_le, nN_lt, nN_eq, nN_lel, nN_lle, nN_ltl, nN_llt, nN_eql, nN_rm, nN_dv, ob_s, ob_2, ob_3, ite_true, ite_false, not_true_eq_false, not_false_eq_true, ite_self, eq_self, Nat.add_zero, c0, eq_true c1, c2]
            exact fin _
          · have c2 : z = 2 := by
              obtain ⟨z9, _, hz9, rfl⟩ := wi_n (lo := 0) (hi := 2) (by decide) (by decide) hz
              have : ¬ z9 = 0 := fun e => c0 (by rw [e]; rfl)
              have : ¬ z9 = 1 := fun e => c1 (by rw [e]; rfl)
              obtain rfl : z9 = 2 := by omega
              rfl
            simp only [tA_e, tA_l, tW0_e, tW0_l, nN_al, nN_la, nN_ad, nN_lm, nN_ml, nN_le, nN_lt, nN_eq, nN_lel, nN_lle, nN_ltl, nN_llt, nN_eql, nN_rm, nN_dv, ob_s, ob_2, ob_3, ite_true, ite_false, not_true_eq_false, not_false_eq_true, ite_self, eq_self, Nat.add_zero, c0, c1, eq_true c2]
            exact fin _
end
