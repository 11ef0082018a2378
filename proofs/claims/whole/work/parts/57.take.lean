/-! ===== PURE: what is taken of the tokens, in both ===== -/
section
variable {v nh nd st a b n m : Nat} {V : Nat → Nat → Nat} {S : Nat → Nat → Int32} {t0 t0' t t' : tS}
variable {c so pl bh : Nat → Nat} {L M k : Nat}
theorem uI_id {k : Nat} : uI t a k (t.1 a k) = t := by
  have : up2 t.1 a k (t.1 a k) = t.1 := by
    funext b j
    unfold up2
    by_cases e : b = a ∧ j = k
    · rw [if_pos e, e.1, e.2]
    · rw [if_neg e]
  show (up2 t.1 a k (t.1 a k), t.2) = t
  rw [this]
/-- what the class, and the reference, change at the tape alone -/
def CO1 (t t1 : tS) : Prop := (∀ b j, b ≠ 1 → t1.1 b j = t.1 b j) ∧ t1.2.1 = t.2.1 ∧ t1.2.2.1 = t.2.2.1 ∧ (∀ b j, b ≠ 1 → t1.2.2.2.1 b j = t.2.2.2.1 b j) ∧ t1.2.2.2.2 = t.2.2.2.2
def RO1 (t t1 : tS) : Prop := (∀ b j, ¬ (b = 218 ∧ (j = 7 ∨ j = 8)) → t1.1 b j = t.1 b j) ∧ t1.2 = t.2
theorem CO1.rf : CO1 t t := ⟨fun _ _ _ => rfl, rfl, rfl, fun _ _ _ => rfl, rfl⟩
theorem CO1.tr {t1 t2 : tS} (h : CO1 t t1) (g : CO1 t1 t2) : CO1 t t2 := ⟨fun b k hb => (g.1 b k hb).trans (h.1 b k hb), g.2.1.trans h.2.1, g.2.2.1.trans h.2.2.1, fun b k hb => (g.2.2.2.1 b k hb).trans (h.2.2.2.1 b k hb), g.2.2.2.2.trans h.2.2.2.2⟩
theorem RO1.rf : RO1 t t := ⟨fun _ _ _ => rfl, rfl⟩
theorem RO1.tr {t1 t2 : tS} (h : RO1 t t1) (g : RO1 t1 t2) : RO1 t t2 := ⟨fun b k hb => (g.1 b k hb).trans (h.1 b k hb), g.2.trans h.2⟩
theorem STF.co {t1 : tS} (h : STF t t1) : CO1 t t1 := ⟨fun b k hb => h.1 b k (by omega), h.2.1, h.2.2.1, fun b k hb => h.2.2.2.1 b k (by omega), h.2.2.2.2⟩
theorem CO1.wI {j : Nat} {x : Int32} : CO1 t (uI t 1 j x) := ⟨fun b k hb => uI_o (by omega), rfl, rfl, fun _ _ _ => rfl, rfl⟩
theorem RO1.wI {j : Nat} {x : Int32} (hj : j = 7 ∨ j = 8) : RO1 t (uI t 218 j x) := ⟨fun b k hb => uI_o (by omega), rfl⟩
theorem PC.ag {t1 t1' : tS} (h : PC c L M so pl bh k t t') (e1 : ∀ j, j ≤ 6 → t1.1 1 j = t.1 1 j) (e2 : ∀ i, t1.2.1 2 i = t.2.1 2 i) (e3 : t1.2.2.2.1 1 6 = t.2.2.2.1 1 6) (m1 : t1'.1 218 7 = t'.1 218 7) (m2 : t1'.1 218 8 = t'.1 218 8) (m3 : ∀ i, t1'.2.1 220 i = t'.2.1 220 i) (m4 : ∀ i, t1'.2.1 221 i = t'.2.1 221 i) (m5 : ∀ i, t1'.2.2.1 222 i = t'.2.2.1 222 i) (m6 : ∀ i, t1'.2.2.1 223 i = t'.2.2.1 223 i) : PC c L M so pl bh k t1 t1' := by
  obtain ⟨hk, ⟨⟨a1, a2⟩, a3, a4, a5, a6, a7⟩, r, wd, m7, m8⟩ := h
  refine ⟨hk, ⟨⟨(e1 1 (by omega)).trans a1, fun i hi => (e2 i).trans (a2 i hi)⟩, (e1 2 (by omega)).trans a3, (e1 3 (by omega)).trans a4, (e1 4 (by omega)).trans a5, fun z => e3.trans (a6 z), fun z => (e1 5 (by omega)).trans (a7 z)⟩, ?_, wd.ag m6, m1.trans m7, m2.trans m8⟩
  intro i hi
  rw [m3, m4, m5]
  exact r i hi
theorem PC.step (h : PC c L M so pl bh k t t') (hT : TK c L M so pl bh) (hk : k < M) : ∃ t1, tX7_step t = some t1 ∧ PC c L M so pl bh (k + 1) t1 (uI t' 218 7 (nI (k + 1))) ∧ STF t t1 := by
  obtain ⟨_, ⟨a1, a3, a4, a5, a6, a7⟩, r, wd, m7, m8⟩ := h
  obtain ⟨t1, e1, e2, e3⟩ := stp hT (k := k + 1) (by omega) a1 a4
  exact ⟨t1, e1, ⟨by omega, e2, r, wd, uI_s, by rw [uI_o (by omega)]; exact m8⟩, e3⟩
theorem PC.at1 (h : PC c L M so pl bh k t t') : t'.1 218 7 + (1 : Int32) = nI (k + 1) := by rw [h.2.2.2.2.1, nN_al]
/-- a fault in both -/
def NOx (F : Nat) (t t' t1 t1' : tS) : Prop := 0 < F ∧ F < 100000 ∧ t1.1 1 7 = nI F ∧ t1'.1 218 8 = nI F ∧ CO1 t t1 ∧ RO1 t' t1'
theorem PC.no (h : PC c L M so pl bh k t t') (hT : TK c L M so pl bh) {kd : Nat} (h1 : 1 ≤ kd) (h2 : kd ≤ 5) : ∃ F t1 t1', tX7_refuse (nI kd) t = some (0, t1) ∧ tX10_wrong (nI kd) t' = some t1' ∧ NOx F t t' t1 t1' := by
  have hp := hT.plb h.1
  have hM := hT.2.2.1
  have hL := hT.1
  obtain ⟨hk, ⟨a1, a3, a4, a5, a6, a7⟩, r, wd, m7, m8⟩ := h
  refine ⟨kd + 16 * pl k, uI t 1 7 (nI (kd + 16 * pl k)), uI t' 218 8 (nI (kd + 16 * pl k)), ?_, ?_, by omega, by omega, uI_s, uI_s, CO1.wI, RO1.wI (.inr rfl)⟩
  · unfold tX7_refuse
    rw [a3, nN_lm, nN_ad]
    rfl
  · unfold tX10_wrong
    rw [m8, if_neg (by decide), m7, tA_e (by omega) (by omega), ob_s, (r k hk).2.1, nN_lm, nN_ad]
    rfl
/-- a fault in the reference: nothing more is done -/
def FT (t' : tS) : Prop := ∃ F, 0 < F ∧ F < 100000 ∧ t'.1 218 8 = nI F
theorem NOx.ft {F : Nat} {t1 t1' : tS} (h : NOx F t t' t1 t1') : FT t1' := ⟨F, h.1, h.2.1, h.2.2.2.1⟩
theorem FT.n0 (h : FT t') : ¬ t'.1 218 8 = 0 := by
  obtain ⟨F, h1, h2, h3⟩ := h
  rw [h3, show (0 : Int32) = nI 0 from rfl, nN_eq (by omega) (by decide)]
  omega
theorem FT.nl (h : FT t') : ¬ t'.1 218 8 ≤ 0 := by
  obtain ⟨F, h1, h2, h3⟩ := h
  rw [h3, show (0 : Int32) = nI 0 from rfl, nN_le (by omega) (by decide)]
  omega
theorem FT.wrong (h : FT t') {x : Int32} : tX10_wrong x t' = some t' := by
  unfold tX10_wrong
  rw [if_pos h.n0]
  rfl
theorem FT.isSign (h : FT t') {x : Int32} : tX10_isSign x t' = some 0 := by
  unfold tX10_isSign
  rw [if_pos h.n0]
  rfl
theorem FT.isWord (h : FT t') {x : Int32} : tX10_isWord x t' = some 0 := by
  unfold tX10_isWord
  rw [if_pos h.n0]
  rfl
theorem FT.hasSign (h : FT t') {x : Int32} : tX10_hasSign x t' = some (0, t') := by
  unfold tX10_hasSign
  rw [h.isSign, ob_s, if_pos rfl, ob_s, Int32.add_zero, uI_id]
  rfl
theorem FT.hasWord (h : FT t') {x : Int32} : tX10_hasWord x t' = some (0, t') := by
  unfold tX10_hasWord
  rw [h.isWord, ob_s, if_pos rfl, ob_s, Int32.add_zero, uI_id]
  rfl
theorem FT.takeSign (h : FT t') {x : Int32} : tX10_takeSign x t' = some t' := by
  unfold tX10_takeSign
  rw [h.isSign, ob_s, if_pos rfl, h.wrong]
  rfl
theorem FT.takeWord (h : FT t') {x : Int32} : tX10_takeWord x t' = some t' := by
  unfold tX10_takeWord
  rw [h.hasWord, ob_2, if_neg (by decide), h.wrong]
  rfl
theorem FT.takeNumber (h : FT t') {x y : Int32} : tX10_takeNumber x y t' = some (0, t') := by
  unfold tX10_takeNumber
  rw [if_pos h.n0, if_pos h.n0, ob_s, if_neg h.nl]
theorem FT.takeAfter (h : FT t') {x y z : Int32} : tX10_takeAfter x y z t' = some (0, t') := by
  unfold tX10_takeAfter
  rw [h.takeWord, ob_s, h.takeNumber, ob_2]
theorem FT.takeOne (h : FT t') {x y : Int32} : tX10_takeOne x y t' = some (0, t') := by
  unfold tX10_takeOne
  rw [if_neg h.nl, ob_s, if_pos h.n0, ob_s, if_neg h.nl, ob_s, Int32.add_zero, uI_id, ob_s, if_neg h.nl]
  rfl
theorem FT.takeTold (h : FT t') {x y z : Int32} : tX10_takeTold x y z t' = some (0, t') := by
  unfold tX10_takeTold
  rw [if_pos h.n0, ob_s, if_neg h.nl, ob_s, if_pos h.n0, if_pos h.n0, ob_s, if_neg h.nl, ob_s, Int32.add_zero, uI_id, ob_s, if_neg h.nl]
  rfl
theorem PC.pSign (h : PC c L M so pl bh k t t') (hT : TK c L M so pl bh) {x : Nat} (hx : x < 127) : (∃ t1 t1', tX7_passSign (nI x) t = some (1, t1) ∧ tX10_takeSign (nI x) t' = some t1' ∧ PC c L M so pl bh (k + 1) t1 t1' ∧ CO1 t t1 ∧ RO1 t' t1' ∧ iss c so pl k x = true) ∨ (∃ F t1 t1', tX7_passSign (nI x) t = some (0, t1) ∧ tX10_takeSign (nI x) t' = some t1' ∧ NOx F t t' t1 t1') := by
  unfold tX7_passSign tX10_takeSign
  rw [h.cs hT hx, h.ms hT hx, ob_s, ob_s]
  cases hs : iss c so pl k x
  · obtain ⟨F, t1, t1', e1, e2, e3⟩ := h.no hT (kd := 1) (by omega) (by omega)
    have e1' : tX7_refuse 1 t = some (0, t1) := e1
    have e2' : tX10_wrong 1 t' = some t1' := e2
    rw [if_neg (show ¬ ¬ bI false = 0 by decide), if_pos (show bI false = 0 by decide), e1', e2']
    exact .inr ⟨F, t1, t1', rfl, rfl, e3⟩
  · have hk : k < M := by
      apply hT.mlt h.1
      unfold iss at hs
      simp only [Bool.and_eq_true, decide_eq_true_eq] at hs
      omega
    obtain ⟨t1, e1, e2, e3⟩ := h.step hT hk
    rw [if_pos (show ¬ bI true = 0 by decide), if_neg (show ¬ bI true = 0 by decide), e1, h.at1]
    exact .inl ⟨t1, _, rfl, rfl, e2, e3.co, RO1.wI (.inl rfl), rfl⟩
theorem PC.hasW (h : PC c L M so pl bh k t t') (hT : TK c L M so pl bh) {i : Nat} (hi : i < 25) : tX10_hasWord (nI i) t' = some (bI (isw c so pl bh k i), uI t' 218 7 (nI (if isw c so pl bh k i = true then k + 1 else k))) := by
  unfold tX10_hasWord
  rw [h.mw hT hi, ob_s]
  cases isw c so pl bh k i
  · rw [if_pos (show bI false = 0 by decide), ob_s, Int32.add_zero, h.2.2.2.2.1]
    rfl
  · rw [if_neg (show ¬ bI true = 0 by decide), ob_s, h.at1]
    rfl
theorem PC.hasS (h : PC c L M so pl bh k t t') (hT : TK c L M so pl bh) {x : Nat} (hx : x < 127) : tX10_hasSign (nI x) t' = some (bI (iss c so pl k x), uI t' 218 7 (nI (if iss c so pl k x = true then k + 1 else k))) := by
  unfold tX10_hasSign
  rw [h.ms hT hx, ob_s]
  cases iss c so pl k x
  · rw [if_pos (show bI false = 0 by decide), ob_s, Int32.add_zero, h.2.2.2.2.1]
    rfl
  · rw [if_neg (show ¬ bI true = 0 by decide), ob_s, h.at1]
    rfl
theorem PC.id7 (h : PC c L M so pl bh k t t') : uI t' 218 7 (nI k) = t' := by
  rw [← h.2.2.2.2.1]
  exact uI_id
theorem isw_m (hT : TK c L M so pl bh) (hk : k ≤ M) {i : Nat} (hs : isw c so pl bh k i = true) : k < M := by
  apply hT.mlt hk
  unfold isw at hs
  simp only [Bool.and_eq_true, decide_eq_true_eq] at hs
  omega
theorem iss_m (hT : TK c L M so pl bh) (hk : k ≤ M) {x : Nat} (hs : iss c so pl k x = true) : k < M := by
  apply hT.mlt hk
  unfold iss at hs
  simp only [Bool.and_eq_true, decide_eq_true_eq] at hs
  omega
theorem PC.pWord (h : PC c L M so pl bh k t t') (hT : TK c L M so pl bh) {i : Nat} (hi : i < 25) : (∃ t1 t1', tX7_passWord (1000000 + i) t = some (1, t1) ∧ tX10_takeWord (nI i) t' = some t1' ∧ PC c L M so pl bh (k + 1) t1 t1' ∧ CO1 t t1 ∧ RO1 t' t1') ∨ (∃ F t1 t1', tX7_passWord (1000000 + i) t = some (0, t1) ∧ tX10_takeWord (nI i) t' = some t1' ∧ NOx F t t' t1 t1') := by
  unfold tX7_passWord tX10_takeWord
  rw [h.cw hT hi, h.hasW hT hi, ob_s, ob_2]
  cases hs : isw c so pl bh k i
  · obtain ⟨F, t1, t1', e1, e2, e3⟩ := h.no hT (kd := 1) (by omega) (by omega)
    have e1' : tX7_refuse 1 t = some (0, t1) := e1
    have e2' : tX10_wrong 1 t' = some t1' := e2
    rw [if_neg (show ¬ ¬ bI false = 0 by decide), if_neg (show ¬ ¬ bI false = 0 by decide), if_neg (by decide), h.id7, e1', e2']
    exact .inr ⟨F, t1, t1', rfl, rfl, e3⟩
  · obtain ⟨t1, e1, e2, e3⟩ := h.step hT (isw_m hT h.1 hs)
    rw [if_pos (show ¬ bI true = 0 by decide), if_pos (show ¬ bI true = 0 by decide), if_pos rfl, e1]
    exact .inl ⟨t1, _, rfl, rfl, e2, e3.co, RO1.wI (.inl rfl)⟩
theorem nv_lt {p : Nat} : ∀ n, (∀ i, p ≤ i → i < p + n → Dg (c i)) → nv c p n < 10 ^ n := by
  intro n
  induction n with
  | zero => intro _; exact (by decide : 0 < 1)
  | succ n ih =>
    intro h
    have h1 := ih (fun i g1 g2 => h i g1 (by omega))
    have h2 := h (p + n) (by omega) (by omega)
    rw [nv, Nat.pow_succ]
    omega
theorem TK.nb (hT : TK c L M so pl bh) (hk : k ≤ M) (hs : so k = 2) : k < M ∧ nv c (pl k) (bh (k + 1) - pl k) < 10000 := by
  have hkM := hT.mlt hk (by omega)
  obtain ⟨k1, k2, k3, k4, k5, k6, k7, k8, k9, k10⟩ := hT
  obtain ⟨q1, q2, q3, q4, q5, q6, q7⟩ := k10 k hkM
  rcases q7 with ⟨g1, g2⟩ | ⟨g1, g2⟩ | ⟨g1, g2, g3, g4, g5⟩
  · rw [hs] at g2
    split at g2 <;> cases g2
  · have h8 : bh (k + 1) - pl k ≤ 4 := by
      by_cases z : bh (k + 1) - pl k ≤ 4
      · exact z
      · rw [if_neg z, hs] at g2; cases g2
    have h1 := nv_lt (c := c) (p := pl k) (bh (k + 1) - pl k) (fun i e1 e2 => g1.2.2.1 i e1 (by omega))
    have h2 : 10 ^ (bh (k + 1) - pl k) ≤ 10 ^ 4 := Nat.pow_le_pow_right (by decide) h8
    exact ⟨hkM, by omega⟩
  · rw [hs] at g5
    split at g5 <;> cases g5
/-- the number at a token -/
def tn (c pl bh : Nat → Nat) (k : Nat) : Nat := nv c (pl k) (bh (k + 1) - pl k)
theorem PC.pNum (h : PC c L M so pl bh k t t') (hT : TK c L M so pl bh) {lo hi : Nat} (h1 : lo < 1000) (h2 : hi < 1000) : (∃ n t1 t1', lo ≤ n ∧ n ≤ hi ∧ tX7_passNumber (nI lo) (nI hi) t = some (1, t1) ∧ t1.1 1 8 = nI n ∧ tX10_takeNumber (nI lo) (nI hi) t' = some (nI n, t1') ∧ PC c L M so pl bh (k + 1) t1 t1' ∧ CO1 t t1 ∧ RO1 t' t1') ∨ (∃ F t1 t1', tX7_passNumber (nI lo) (nI hi) t = some (0, t1) ∧ tX10_takeNumber (nI lo) (nI hi) t' = some (0, t1') ∧ NOx F t t' t1 t1') := by
  have hM := hT.2.2.1
  have hL := hT.1
  have so4 := hT.sob h.1
  have h0 := h
  obtain ⟨hk, ⟨a1, a3, a4, a5, a6, a7⟩, r, wd, m7, m8⟩ := h
  obtain ⟨r1, r2, r3, r4, r5⟩ := r k hk
  have tA0 : tA t' 220 1002 (nI k) = some (nI (so k)) := by rw [tA_e (by omega) (by omega), r1]
  have z0 : ¬ ¬ (nI 0 : Int32) = 0 := by decide
  unfold tX7_passNumber tX10_takeNumber
  rw [h0.cn hT, m8, if_neg z0, if_neg z0, m7, tA0]
  simp only [ob_s]
  by_cases hs : so k = 2
  · obtain ⟨w1, w2⟩ := hT.nb hk hs
    have e2 : nI (so k) = (2 : Int32) := by rw [hs]; rfl
    have tB0 : tB t' 222 1002 (nI k) = some (nL (tn c pl bh k)) := by rw [tB_e (by omega) (by omega), r4 hs]; rfl
    have cmp1 : (lg_cmp (nL (tn c pl bh k)) (nI lo).toInt64 < 0) ↔ tn c pl bh k < lo := by
      rw [nI_64 (by omega), lg_cmp_lt, Int64.lt_iff_toInt_lt, nL_toInt (by unfold tn; omega), nL_toInt (by omega)]
      omega
    have cmp2 : (lg_cmp (nL (tn c pl bh k)) (nI hi).toInt64 ≤ 0) ↔ tn c pl bh k ≤ hi := by
      rw [nI_64 (by omega), lg_cmp_le, Int64.le_iff_toInt_le, nL_toInt (by unfold tn; omega), nL_toInt (by omega)]
      omega
    have n5 : t.1 1 5 = nI (tn c pl bh k) := a7 hs
    rw [decide_eq_true hs, if_pos (show ¬ bI true = 0 by decide), n5, wi_e.1, if_pos e2, tB0]
    simp only [ob_s]
    have wd : decide (nI lo ≤ nI (tn c pl bh k) ∧ nI (tn c pl bh k) ≤ nI hi) = decide (lo ≤ tn c pl bh k ∧ tn c pl bh k ≤ hi) := by
      apply decide_eq_decide.2
      rw [nN_le (by omega) (by unfold tn; omega), nN_le (by unfold tn; omega) (by omega)]
    rw [wd]
    obtain ⟨F, f1, f1', g1, g2, g3⟩ := h0.no hT (kd := 4) (by omega) (by omega)
    have g1' : tX7_refuse 4 t = some (0, f1) := g1
    have g2' : tX10_wrong 4 t' = some f1' := g2
    by_cases c1 : tn c pl bh k < lo
    · rw [decide_eq_false (by omega), if_neg (show ¬ ¬ bI false = 0 by decide), if_pos (cmp1.2 c1), g1', g2']
      simp only [ob_s, ob_2, z01_0]
      rw [if_neg g3.ft.nl]
      exact .inr ⟨F, f1, f1', rfl, rfl, g3⟩
    · rw [if_neg (fun z => c1 (cmp1.1 z))]
      by_cases c2 : tn c pl bh k ≤ hi
      · rw [decide_eq_true (by omega), if_pos (show ¬ bI true = 0 by decide), if_pos (cmp2.2 c2)]
        simp only [ob_s]
        have h8 : PC c L M so pl bh k (uI t 1 8 (nI (tn c pl bh k))) t' := h0.ag (fun j hj => uI_o (by omega)) (fun _ => rfl) rfl rfl rfl (fun _ => rfl) (fun _ => rfl) (fun _ => rfl) (fun _ => rfl)
        obtain ⟨t1, e1, e2, e3⟩ := h8.step hT w1
        have w8 : t1.1 1 8 = nI (tn c pl bh k) := by rw [e3.1 _ _ (by omega), uI_s]
        have zz : t'.1 218 8 ≤ 0 := by rw [m8]; decide
        have q1 : (uI t' 218 7 (nI (k + 1))).1 218 7 - (1 : Int32) = nI k := by
          rw [uI_s, show (1 : Int32) = nI 1 from rfl, nN_su (by omega)]
          rfl
        have q2 : tB (uI t' 218 7 (nI (k + 1))) 222 1002 (nI k) = some (nL (tn c pl bh k)) := tB0
        rw [e1, if_pos zz, h0.at1, q1, q2]
        simp only [ob_s, nL_32]
        exact .inl ⟨tn c pl bh k, t1, _, by omega, c2, rfl, w8, rfl, e2, CO1.wI.tr e3.co, RO1.wI (.inl rfl)⟩
      · rw [decide_eq_false (by omega), if_neg (show ¬ ¬ bI false = 0 by decide), if_neg (fun z => c2 (cmp2.1 z)), g1', g2']
        simp only [ob_s, ob_2, z01_0]
        rw [if_neg g3.ft.nl]
        exact .inr ⟨F, f1, f1', rfl, rfl, g3⟩
  · have e2 : ¬ nI (so k) = (2 : Int32) := by rw [nN_eql (by omega) (by decide)]; exact hs
    obtain ⟨F, f1, f1', g1, g2, g3⟩ := h0.no hT (kd := 1) (by omega) (by omega)
    have g1' : tX7_refuse 1 t = some (0, f1) := g1
    have g2' : tX10_wrong 1 t' = some f1' := g2
    rw [decide_eq_false hs, if_neg (show ¬ ¬ bI false = 0 by decide), if_neg e2, g1', g2']
    simp only [ob_s, ob_2, z01_0]
    rw [if_neg g3.ft.nl]
    exact .inr ⟨F, f1, f1', rfl, rfl, g3⟩
/-- whether a token is a name -/
def nmb (c so pl bh : Nat → Nat) (k : Nat) : Bool := decide (so k = 1) && !((List.range 21).any fun i => isw c so pl bh k i)
theorem or_0 {b : Bool} : (if bI b = 0 then some (0 : Int32) else some (1 : Int32)) = some (bI b) := by cases b <;> rfl
theorem or_1 {b r : Bool} : (if ¬ bI b = 0 then some (1 : Int32) else some (bI r)) = some (bI (b || r)) := by cases b <;> rfl
theorem or_2 {b : Bool} : (if ¬ bI b = 0 then some (0 : Int32) else some (1 : Int32)) = some (bI (!b)) := by cases b <;> rfl
set_option maxHeartbeats 4000000 in
theorem PC.cName (h : PC c L M so pl bh k t t') (hT : TK c L M so pl bh) : tX7_isName t = some (bI (nmb c so pl bh k)) := by
  have so4 := hT.sob h.1
  have w0 : tX7_isWord 1000000 t = some (bI (isw c so pl bh k 0)) := h.cw hT (i := 0) (by decide)
  have w1 : tX7_isWord 1000001 t = some (bI (isw c so pl bh k 1)) := h.cw hT (i := 1) (by decide)
  have w2 : tX7_isWord 1000002 t = some (bI (isw c so pl bh k 2)) := h.cw hT (i := 2) (by decide)
  have w3 : tX7_isWord 1000003 t = some (bI (isw c so pl bh k 3)) := h.cw hT (i := 3) (by decide)
  have w4 : tX7_isWord 1000004 t = some (bI (isw c so pl bh k 4)) := h.cw hT (i := 4) (by decide)
  have w5 : tX7_isWord 1000005 t = some (bI (isw c so pl bh k 5)) := h.cw hT (i := 5) (by decide)
  have w6 : tX7_isWord 1000006 t = some (bI (isw c so pl bh k 6)) := h.cw hT (i := 6) (by decide)
  have w7 : tX7_isWord 1000007 t = some (bI (isw c so pl bh k 7)) := h.cw hT (i := 7) (by decide)
  have w8 : tX7_isWord 1000008 t = some (bI (isw c so pl bh k 8)) := h.cw hT (i := 8) (by decide)
  have w9 : tX7_isWord 1000009 t = some (bI (isw c so pl bh k 9)) := h.cw hT (i := 9) (by decide)
  have w10 : tX7_isWord 1000010 t = some (bI (isw c so pl bh k 10)) := h.cw hT (i := 10) (by decide)
  have w11 : tX7_isWord 1000011 t = some (bI (isw c so pl bh k 11)) := h.cw hT (i := 11) (by decide)
  have w12 : tX7_isWord 1000012 t = some (bI (isw c so pl bh k 12)) := h.cw hT (i := 12) (by decide)
  have w13 : tX7_isWord 1000013 t = some (bI (isw c so pl bh k 13)) := h.cw hT (i := 13) (by decide)
  have w14 : tX7_isWord 1000014 t = some (bI (isw c so pl bh k 14)) := h.cw hT (i := 14) (by decide)
  have w15 : tX7_isWord 1000015 t = some (bI (isw c so pl bh k 15)) := h.cw hT (i := 15) (by decide)
  have w16 : tX7_isWord 1000016 t = some (bI (isw c so pl bh k 16)) := h.cw hT (i := 16) (by decide)
  have w17 : tX7_isWord 1000017 t = some (bI (isw c so pl bh k 17)) := h.cw hT (i := 17) (by decide)
  have w18 : tX7_isWord 1000018 t = some (bI (isw c so pl bh k 18)) := h.cw hT (i := 18) (by decide)
  have w19 : tX7_isWord 1000019 t = some (bI (isw c so pl bh k 19)) := h.cw hT (i := 19) (by decide)
  have w20 : tX7_isWord 1000020 t = some (bI (isw c so pl bh k 20)) := h.cw hT (i := 20) (by decide)
  have any : ((List.range 21).any fun i => isw c so pl bh k i) = (isw c so pl bh k 0 || (isw c so pl bh k 1 || (isw c so pl bh k 2 || (isw c so pl bh k 3 || (isw c so pl bh k 4 || (isw c so pl bh k 5 || (isw c so pl bh k 6 || (isw c so pl bh k 7 || (isw c so pl bh k 8 || (isw c so pl bh k 9 || (isw c so pl bh k 10 || (isw c so pl bh k 11 || (isw c so pl bh k 12 || (isw c so pl bh k 13 || (isw c so pl bh k 14 || (isw c so pl bh k 15 || (isw c so pl bh k 16 || (isw c so pl bh k 17 || (isw c so pl bh k 18 || (isw c so pl bh k 19 || (isw c so pl bh k 20 || false))))))))))))))))))))) := rfl
  unfold tX7_isName nmb
  rw [h.2.1.2.2.2.1, any, Bool.or_false]
  by_cases hs : so k = 1
  · have e1 : nI (so k) = (1 : Int32) := by rw [hs]; rfl
    rw [if_pos e1, decide_eq_true hs, Bool.true_and]
    simp only [w0, w1, w2, w3, w4, w5, w6, w7, w8, w9, w10, w11, w12, w13, w14, w15, w16, w17, w18, w19, w20, ob_s, or_0, or_1, or_2, bI_z]
  · have e1 : ¬ nI (so k) = (1 : Int32) := by rw [nN_eql (by omega) (by decide)]; exact hs
    rw [if_neg e1, decide_eq_false hs]
    rfl
theorem PC.mName (h : PC c L M so pl bh k t t') (hT : TK c L M so pl bh) : tX10_isName t' = some (bI (nmb c so pl bh k)) := by
  have hM := hT.2.2.1
  have hL := hT.1
  have so4 := hT.sob h.1
  obtain ⟨y, e1, e2⟩ := h.wh hT (f := 0) (m := 21) (by decide)
  have e1' : tX10_wordHere 0 21 t' = some y := e1
  obtain ⟨hk, _, r, wd, m7, m8⟩ := h
  have tA0 : tA t' 220 1002 (nI k) = some (nI (so k)) := by rw [tA_e (by omega) (by omega), (r k hk).1]
  unfold tX10_isName nmb
  rw [m8, if_neg (by decide), m7, tA0, ob_s]
  by_cases hs : so k = 1
  · have s1 : nI (so k) = (1 : Int32) := by rw [hs]; rfl
    rw [if_neg (by rw [s1]; simp), e1', ob_s, decide_eq_true hs, Bool.true_and]
    rcases e2 with ⟨rfl, e2⟩ | ⟨j, j1, rfl, j3⟩
    · have : ((List.range 21).any fun i => isw c so pl bh k i) = false := by
        rw [List.any_eq_false]
        intro x hx
        rw [List.mem_range] at hx
        have := e2 x hx
        rw [Nat.zero_add] at this
        rw [this]
        decide
      rw [if_neg (by decide), this]
      rfl
    · have : ((List.range 21).any fun i => isw c so pl bh k i) = true := by
        rw [List.any_eq_true]
        rw [Nat.zero_add] at j3
        exact ⟨j, List.mem_range.2 j1, j3⟩
      have le0 : (0 : Int32) ≤ nI j := (nN_le (a := 0) (b := j) (by decide) (by omega)).2 (Nat.zero_le _)
      rw [if_pos le0, this]
      rfl
  · rw [if_pos (by rw [nN_eql (by omega) (by decide)]; exact hs), decide_eq_false hs]
    rfl
end
