/-! ===== PURE: cutting, and the class's step ===== -/
section
variable {v nh nd st a b n m : Nat} {V : Nat → Nat → Nat} {S : Nat → Nat → Int32} {t0 t0' t t' : tS}
theorem uA_s {c i : Nat} {x : Int32} : (uA t c i x).2.1 c i = x := by rw [uA_2, if_pos ⟨rfl, rfl⟩]
theorem uA_o {c i b j : Nat} {x : Int32} (h : ¬ (b = c ∧ j = i)) : (uA t c i x).2.1 b j = t.2.1 b j := by rw [uA_2, if_neg h]
theorem cut_e {t : tS} (h : TP t t') : ∃ c L M so pl bh T', tX10_cutAll t' = some T' ∧ TK c L M so pl bh ∧ RT c M so pl bh T' ∧ T'.1 218 7 = nI 0 ∧ T'.1 218 8 = nI 0 ∧ T'.1 218 2 = nI 0 ∧ (∀ b k, ¬ (b = 218 ∧ (k = 2 ∨ k = 3 ∨ k = 7 ∨ k = 8)) → T'.1 b k = t'.1 b k) ∧ (∀ b i, b ≠ 220 → b ≠ 221 → T'.2.1 b i = t'.2.1 b i) ∧ (∀ b i, b ≠ 222 → T'.2.2.1 b i = t'.2.2.1 b i) ∧ T'.2.2.2 = t'.2.2.2 ∧ t.1 1 1 = nI L ∧ ∀ i, i < L → t.2.1 2 i = nI (c i) := by
  obtain ⟨L, c, h1, h2, h3, h4⟩ := h
  have w2 : (uI t' 218 3 (nI L)).1 218 2 = nI L := by rw [uI_o (by omega)]; exact h3
  have hm : MTX c L (uI (uI t' 218 3 (nI L)) 218 2 0) := by
    refine ⟨by rw [uI_o (by omega), uI_s], fun i hi => ?_⟩
    obtain ⟨g1, g2, g3⟩ := h4 i hi
    exact ⟨g3, by omega⟩
  have hc0 : CU c L 0 0 0 (fun _ => 0) (fun _ => 0) (fun _ => 0) (uI (uI t' 218 3 (nI L)) 218 2 0) := ⟨by omega, by omega, by omega, rfl, rfl, fun i _ _ => by omega, fun k hk => by omega⟩
  obtain ⟨M, b1, so, pl, bh, T1, a1, a2, a3⟩ := cuL h1 (fun i hi => (h4 i hi).1) L 0 0 0 4000 _ _ _ _ (by omega) hm hc0 (by omega)
  have a1' : tX10_cutAll_L17 4000 0 0 (uI (uI t' 218 3 (nI L)) 218 2 0) = some (nI M, T1) := a1
  obtain ⟨k1, k2, k3, k4, k5, k6, k7⟩ := a2
  have t13 : T1.1 218 3 = nI L := by rw [a3.1]; exact hm.1
  refine ⟨c, L, M, fun k => if k = M then 0 else so k, fun k => if k = M then L else pl k, fun k => if k = M + 1 then L else bh k, uI (uI (uA (uA T1 220 M 0) 221 M (nI L)) 218 7 0) 218 8 0, ?_, ?_, ?_, ?_, ?_, ?_, ?_, ?_, ?_, ?_, h2, ?_⟩
  · unfold tX10_cutAll
    have w3 : (uA T1 220 M 0).1 218 3 = nI L := t13
    simp (disch := omega) only [ob_s, h3, a1', ob_2, tW0_e, w3]
  · refine ⟨h1, fun i hi => (h4 i hi).1, by omega, ?_, ?_, ?_, ?_, ?_, ?_, ?_⟩
    · show (if 0 = M + 1 then L else bh 0) = 0
      rw [if_neg (by omega)]; exact k4
    · show (if M + 1 = M + 1 then L else bh (M + 1)) = L
      rw [if_pos rfl]
    · show (if M = M then 0 else so M) = 0
      rw [if_pos rfl]
    · show (if M = M then L else pl M) = L
      rw [if_pos rfl]
    · show (if M = M + 1 then L else bh M) ≤ L
      rw [if_neg (by omega)]; omega
    · intro i g1 g2
      have g1 : (if M = M + 1 then L else bh M) ≤ i := g1
      rw [if_neg (by omega)] at g1
      exact k6 i (by omega) g2
    · intro k hk
      have e1 : ¬ k = M := by omega
      have e2 : ¬ k = M + 1 := by omega
      have e3 : ¬ k + 1 = M + 1 := by omega
      simp only [e1, e2, e3, if_false]
      obtain ⟨q1, q2, q3, q4, q5, q6, q7, _⟩ := k7 k hk
      exact ⟨q1, q2, q3, q4, q5, q6, q7⟩
  · intro k hk
    show (uA (uA T1 220 M 0) 221 M (nI L)).2.1 220 k = _ ∧ (uA (uA T1 220 M 0) 221 M (nI L)).2.1 221 k = _ ∧ (_ → T1.2.2.1 222 k = _) ∧ (_ → T1.2.2.1 222 k = _) ∧ (_ → T1.2.2.1 222 k = _)
    by_cases e1 : k = M
    · subst e1
      simp only [if_true]
      refine ⟨?_, ?_, fun z => absurd z (by decide), fun z => absurd z (by decide), fun z => absurd z (by decide)⟩
      · rw [uA_o (by omega), uA_s]
        rfl
      · rw [uA_s]
    · have e3 : ¬ k + 1 = M + 1 := by omega
      simp only [e1, e3, if_false]
      obtain ⟨_, _, _, _, _, _, _, q8, q9, q10⟩ := k7 k (by omega)
      rw [uA_o (by omega), uA_o (by omega), uA_o (by omega), uA_o (by omega)]
      exact ⟨q8, q9, q10⟩
  · rw [uI_o (by omega), uI_s]
    rfl
  · rw [uI_s]
    rfl
  · rw [uI_o (by omega), uI_o (by omega)]
    show T1.1 218 2 = _
    rw [a3.1, uI_s]
    rfl
  · intro b k hb
    rw [uI_o (by omega), uI_o (by omega)]
    show T1.1 b k = _
    rw [a3.1, uI_o (by omega), uI_o (by omega)]
  · intro b i g1 g2
    show (uA (uA T1 220 M 0) 221 M (nI L)).2.1 b i = _
    rw [uA_o (by omega), uA_o (by omega), a3.2.1 b i g1 g2]
    rfl
  · intro b i g1
    show T1.2.2.1 b i = _
    rw [a3.2.2.1 b i g1]
    rfl
  · show T1.2.2.2 = _
    rw [a3.2.2.2]
    rfl
  · intro i hi
    exact (h4 i hi).2.1
/-- the class's text -/
def CTX (c : Nat → Nat) (L : Nat) (t : tS) : Prop := t.1 1 1 = nI L ∧ ∀ i, i < L → t.2.1 2 i = nI (c i)
/-- the class at a token -/
def AT (c : Nat → Nat) (L : Nat) (so pl bh : Nat → Nat) (k : Nat) (t : tS) : Prop := CTX c L t ∧ t.1 1 2 = nI (pl k) ∧ t.1 1 3 = nI (bh (k + 1)) ∧ t.1 1 4 = nI (so k) ∧ (so k = 1 → t.2.2.2.1 1 6 = nL (enc 32 (wl c (pl k) (bh (k + 1) - pl k)) 0)) ∧ (so k = 2 → t.1 1 5 = nI (nv c (pl k) (bh (k + 1) - pl k)))
/-- what a step may change -/
def STF (t t1 : tS) : Prop := (∀ b k, ¬ (b = 1 ∧ 2 ≤ k ∧ k ≤ 5) → t1.1 b k = t.1 b k) ∧ t1.2.1 = t.2.1 ∧ t1.2.2.1 = t.2.2.1 ∧ (∀ b k, ¬ (b = 1 ∧ k = 6) → t1.2.2.2.1 b k = t.2.2.2.1 b k) ∧ t1.2.2.2.2 = t.2.2.2.2
theorem STF.rf : STF t t := ⟨fun _ _ _ => rfl, rfl, rfl, fun _ _ _ => rfl, rfl⟩
theorem STF.tr {t1 t2 : tS} (h : STF t t1) (g : STF t1 t2) : STF t t2 := ⟨fun b k hb => (g.1 b k hb).trans (h.1 b k hb), g.2.1.trans h.2.1, g.2.2.1.trans h.2.2.1, fun b k hb => (g.2.2.2.1 b k hb).trans (h.2.2.2.1 b k hb), g.2.2.2.2.trans h.2.2.2.2⟩
theorem STF.wI {k : Nat} {x : Int32} (hk : 2 ≤ k ∧ k ≤ 5) : STF t (uI t 1 k x) := ⟨fun b j hb => uI_o (by omega), rfl, rfl, fun _ _ _ => rfl, rfl⟩
theorem STF.wJ {x : Int64} : STF t (uJ t 1 6 x) := ⟨fun _ _ _ => rfl, rfl, rfl, fun b k hb => by show up2 _ _ _ _ _ _ = _; unfold up2; rw [if_neg hb], rfl⟩
theorem CTX.fr {c : Nat → Nat} {L : Nat} {t1 : tS} (h : CTX c L t) (g : STF t t1) : CTX c L t1 := ⟨(g.1 1 1 (by omega)).trans h.1, fun i hi => by rw [g.2.1]; exact h.2 i hi⟩
theorem sk0 {c : Nat → Nat} {L : Nat} (hL : L ≤ 1000) (hch : ∀ i, i < L → c i = 10 ∨ (32 ≤ c i ∧ c i ≤ 126)) : ∀ (r q f : Nat) (t : tS), CTX c L t → t.1 1 3 = nI q → q + r = L → r < f → ∃ e t1, tX7_step_L0 f t = some t1 ∧ q ≤ e ∧ e ≤ L ∧ (∀ i, q ≤ i → i < e → Bl (c i)) ∧ (e < L → ¬ Bl (c e)) ∧ t1.1 1 3 = nI e ∧ STF t t1 := by
  intro r
  induction r with
  | zero =>
    intro q f t h h3 hq hf
    obtain ⟨f, rfl⟩ : ∃ g, f = g + 1 := ⟨f - 1, by omega⟩
    obtain rfl : q = L := by omega
    rw [tX7_step_L0, h.1, h3, if_pos (Int32.le_refl _)]
    exact ⟨q, t, rfl, Nat.le_refl _, Nat.le_refl _, fun i _ _ => by omega, fun z => by omega, h3, STF.rf⟩
  | succ r ih =>
    intro q f t h h3 hq hf
    obtain ⟨f, rfl⟩ : ∃ g, f = g + 1 := ⟨f - 1, by omega⟩
    have c1 : ¬ L ≤ q := by omega
    have e1 := h.2 q (by omega)
    have ch := hch q (by omega)
    rw [tX7_step_L0]
    simp (disch := omega) only [h.1, h3, nN_le, c1, ite_false, tA_e, e1, ob_s, nN_eql, nN_al]
    have go : Bl (c q) → ∃ e t1, tX7_step_L0 f (uI t 1 3 (nI (q + 1))) = some t1 ∧ q ≤ e ∧ e ≤ L ∧ (∀ i, q ≤ i → i < e → Bl (c i)) ∧ (e < L → ¬ Bl (c e)) ∧ t1.1 1 3 = nI e ∧ STF t t1 := by
      intro hb
      obtain ⟨e, t1, a1, a2, a3, a4, a5, a6, a7⟩ := ih (q + 1) f (uI t 1 3 (nI (q + 1))) (h.fr (STF.wI (by omega))) uI_s (by omega) (by omega)
      refine ⟨e, t1, a1, by omega, a3, fun i g1 g2 => ?_, a5, a6, (STF.wI (by omega)).tr a7⟩
      by_cases z : i = q
      · rw [z]; exact hb
      · exact a4 i (by omega) g2
    by_cases b1 : c q = 10
    · simp only [eq_true b1, ite_true]
      exact go (.inl b1)
    · by_cases b2 : c q = 32
      · simp only [b1, ite_false, eq_true b2, not_true_eq_false]
        exact go (.inr b2)
      · simp only [b1, b2, ite_false, not_false_eq_true, ite_true]
        exact ⟨q, t, rfl, Nat.le_refl _, by omega, fun i _ _ => by omega, fun _ z => by rcases z with z | z <;> contradiction, h3, STF.rf⟩
theorem sw5 {c : Nat → Nat} {L p : Nat} (hL : L ≤ 1000) (hch : ∀ i, i < L → c i = 10 ∨ (32 ≤ c i ∧ c i ≤ 126)) : ∀ (r n f : Nat) (t : tS), CTX c L t → t.1 1 3 = nI (p + n) → t.2.2.2.1 1 6 = nL (enc 32 (wl c p n) 0) → (∀ i, p ≤ i → i < p + n → Lt (c i)) → p + n + r = L → r < f → ∃ e t1, tX7_scanWord_L5 f t = some t1 ∧ p + n ≤ e ∧ e ≤ L ∧ (∀ i, p ≤ i → i < e → Lt (c i)) ∧ (e < L → ¬ Lt (c e)) ∧ t1.1 1 3 = nI e ∧ t1.2.2.2.1 1 6 = nL (enc 32 (wl c p (e - p)) 0) ∧ STF t t1 ∧ t1.1 1 2 = t.1 1 2 := by
  intro r
  induction r with
  | zero =>
    intro n f t h h3 h6 hl hn hf
    obtain ⟨f, rfl⟩ : ∃ g, f = g + 1 := ⟨f - 1, by omega⟩
    rw [tX7_scanWord_L5, h.1, h3, if_pos ((nN_le (by omega) (by omega)).2 (by omega))]
    exact ⟨p + n, t, rfl, Nat.le_refl _, by omega, hl, fun z => by omega, h3, by rw [show p + n - p = n from by omega]; exact h6, STF.rf, rfl⟩
  | succ r ih =>
    intro n f t h h3 h6 hl hn hf
    obtain ⟨f, rfl⟩ : ∃ g, f = g + 1 := ⟨f - 1, by omega⟩
    have c1 : ¬ L ≤ p + n := by omega
    have e1 := h.2 (p + n) (by omega)
    have ch := hch (p + n) (by omega)
    have stop : ¬ Lt (c (p + n)) → ∃ e t1, some t = some t1 ∧ p + n ≤ e ∧ e ≤ L ∧ (∀ i, p ≤ i → i < e → Lt (c i)) ∧ (e < L → ¬ Lt (c e)) ∧ t1.1 1 3 = nI e ∧ t1.2.2.2.1 1 6 = nL (enc 32 (wl c p (e - p)) 0) ∧ STF t t1 ∧ t1.1 1 2 = t.1 1 2 := fun z => ⟨p + n, t, rfl, Nat.le_refl _, by omega, hl, fun _ => z, h3, by rw [show p + n - p = n from by omega]; exact h6, STF.rf, rfl⟩
    rw [tX7_scanWord_L5]
    simp (disch := omega) only [h.1, h3, nN_le, c1, ite_false, tA_e, e1, ob_s, nN_ltl, nN_llt]
    by_cases b1 : c (p + n) < 97
    · simp only [eq_true b1, ite_true]
      exact stop (by intro z; have := z.1; omega)
    · by_cases b2 : 122 < c (p + n)
      · simp only [b1, ite_false, eq_true b2, ite_true]
        exact stop (by intro z; have := z.2; omega)
      · simp only [b1, b2, ite_false]
        have l1 : Lt (c (p + n)) := ⟨by omega, by omega⟩
        have e2 : ((nI (c (p + n)) - (97 : Int32)) + (1 : Int32)).toInt64 = nL (c (p + n) - 96) := by
          rw [show (97 : Int32) = nI 97 from rfl, nN_su (by omega), show (1 : Int32) = nI 1 from rfl, nN_ad, nI_64 (by omega)]
          congr 1
          omega
        have e3 : nL (enc 32 (wl c p n) 0) * (32 : Int64) + nL (c (p + n) - 96) = nL (enc 32 (wl c p (n + 1)) 0) := by
          rw [show (32 : Int64) = nL 32 from rfl, nL_mu, nL_ad, wl, enc_sn, Nat.mul_comm]
        rw [h6, e2, e3]
        have w1 : (uJ t 1 6 (nL (enc 32 (wl c p (n + 1)) 0))).1 1 3 = nI (p + n) := h3
        rw [w1, nN_al]
        obtain ⟨e, t1, a1, a2, a3, a4, a5, a6, a7, a8, a9⟩ := ih (n + 1) f (uI (uJ t 1 6 (nL (enc 32 (wl c p (n + 1)) 0))) 1 3 (nI (p + n + 1))) ((h.fr STF.wJ).fr (STF.wI (by omega))) uI_s uJ_s (fun i g1 g2 => by
          by_cases z : i = p + n
          · rw [z]; exact l1
          · exact hl i g1 (by omega)) (by omega) (by omega)
        exact ⟨e, t1, a1, by omega, a3, a4, a5, a6, a7, (STF.wJ.tr (STF.wI (by omega))).tr a8, a9.trans (uI_o (by omega))⟩
theorem sn5 {c : Nat → Nat} {L p : Nat} (hL : L ≤ 1000) (hch : ∀ i, i < L → c i = 10 ∨ (32 ≤ c i ∧ c i ≤ 126)) : ∀ (r n f : Nat) (t : tS), CTX c L t → t.1 1 3 = nI (p + n) → t.1 1 5 = nI (nv c p n) → (∀ i, p ≤ i → i < p + n → Dg (c i)) → p + n + r = L → r < f → ∃ e t1, tX7_scanNumber_L5 f t = some t1 ∧ p + n ≤ e ∧ e ≤ L ∧ (∀ i, p ≤ i → i < e → Dg (c i)) ∧ (e < L → ¬ Dg (c e)) ∧ t1.1 1 3 = nI e ∧ t1.1 1 5 = nI (nv c p (e - p)) ∧ STF t t1 ∧ t1.1 1 2 = t.1 1 2 := by
  intro r
  induction r with
  | zero =>
    intro n f t h h3 h6 hl hn hf
    obtain ⟨f, rfl⟩ : ∃ g, f = g + 1 := ⟨f - 1, by omega⟩
    rw [tX7_scanNumber_L5, h.1, h3, if_pos ((nN_le (by omega) (by omega)).2 (by omega))]
    exact ⟨p + n, t, rfl, Nat.le_refl _, by omega, hl, fun z => by omega, h3, by rw [show p + n - p = n from by omega]; exact h6, STF.rf, rfl⟩
  | succ r ih =>
    intro n f t h h3 h6 hl hn hf
    obtain ⟨f, rfl⟩ : ∃ g, f = g + 1 := ⟨f - 1, by omega⟩
    have c1 : ¬ L ≤ p + n := by omega
    have e1 := h.2 (p + n) (by omega)
    have ch := hch (p + n) (by omega)
    have stop : ¬ Dg (c (p + n)) → ∃ e t1, some t = some t1 ∧ p + n ≤ e ∧ e ≤ L ∧ (∀ i, p ≤ i → i < e → Dg (c i)) ∧ (e < L → ¬ Dg (c e)) ∧ t1.1 1 3 = nI e ∧ t1.1 1 5 = nI (nv c p (e - p)) ∧ STF t t1 ∧ t1.1 1 2 = t.1 1 2 := fun z => ⟨p + n, t, rfl, Nat.le_refl _, by omega, hl, fun _ => z, h3, by rw [show p + n - p = n from by omega]; exact h6, STF.rf, rfl⟩
    rw [tX7_scanNumber_L5]
    simp (disch := omega) only [h.1, h3, nN_le, c1, ite_false, tA_e, e1, ob_s, nN_ltl, nN_llt]
    by_cases b1 : c (p + n) < 48
    · simp only [eq_true b1, ite_true]
      exact stop (by intro z; have := z.1; omega)
    · by_cases b2 : 57 < c (p + n)
      · simp only [b1, ite_false, eq_true b2, ite_true]
        exact stop (by intro z; have := z.2; omega)
      · simp only [b1, b2, ite_false]
        have l1 : Dg (c (p + n)) := ⟨by omega, by omega⟩
        have e3 : nI (nv c p n) * (10 : Int32) + (nI (c (p + n)) - (48 : Int32)) = nI (nv c p (n + 1)) := by
          rw [show (10 : Int32) = nI 10 from rfl, show (48 : Int32) = nI 48 from rfl, nN_su (by omega), nN_mu, nN_ad, nv]
        rw [h6, e3]
        have w1 : (uI t 1 5 (nI (nv c p (n + 1)))).1 1 3 = nI (p + n) := by rw [uI_o (by omega)]; exact h3
        rw [w1, nN_al]
        obtain ⟨e, t1, a1, a2, a3, a4, a5, a6, a7, a8, a9⟩ := ih (n + 1) f (uI (uI t 1 5 (nI (nv c p (n + 1)))) 1 3 (nI (p + n + 1))) ((h.fr (STF.wI (by omega))).fr (STF.wI (by omega))) uI_s (by rw [uI_o (by omega), uI_s]) (fun i g1 g2 => by
          by_cases z : i = p + n
          · rw [z]; exact l1
          · exact hl i g1 (by omega)) (by omega) (by omega)
        exact ⟨e, t1, a1, by omega, a3, a4, a5, a6, a7, ((STF.wI (by omega)).tr (STF.wI (by omega))).tr a8, a9.trans ((uI_o (by omega)).trans (uI_o (by omega)))⟩
set_option maxHeartbeats 4000000 in
/-- a step to the next token -/
theorem stp {c : Nat → Nat} {L M : Nat} {so pl bh : Nat → Nat} (h : TK c L M so pl bh) {k : Nat} (hk : k ≤ M) (hc : CTX c L t) (h3 : t.1 1 3 = nI (bh k)) : ∃ t1, tX7_step t = some t1 ∧ AT c L so pl bh k t1 ∧ STF t t1 := by
  obtain ⟨k1, k2, k3, k4, k5, k6, k7, k8, k9, k10⟩ := h
  have hbk : bh k ≤ L := by
    by_cases z : k < M
    · have := k10 k z; omega
    · obtain rfl : k = M := by omega
      exact k8
  obtain ⟨e, T, a1, a2, a3, a4, a5, a6, a7⟩ := sk0 k1 k2 (L - bh k) (bh k) 4000 t hc h3 (by omega) (by omega)
  have hcT := hc.fr a7
  have f1 : STF t (uI T 1 2 (nI e)) := a7.tr (STF.wI (by omega))
  have hc1 := hc.fr f1
  have w3 : (uI T 1 2 (nI e)).1 1 3 = nI e := by rw [uI_o (by omega)]; exact a6
  unfold tX7_step
  rw [a1, ob_s, a6, ob_s, uI_s, hc1.1]
  by_cases hkM : k < M
  · obtain ⟨q1, q2, q3, q4, q5, q6, q7⟩ := k10 k hkM
    obtain rfl : e = pl k := by
      by_cases z1 : e < pl k
      · exact absurd (q2 e a2 z1) (a5 (by omega))
      · by_cases z2 : pl k < e
        · exact absurd (a4 (pl k) q1 z2) q4
        · omega
    have ch := k2 (pl k) q3
    have e1 := hc1.2 (pl k) q3
    rw [if_pos ((nN_lt (by omega) (by omega)).2 q3), tA_e (by omega) (by omega), e1, ob_s, wi_e.1, ob_s, wi_e.1]
    have d1 : decide ((97 : Int32) ≤ nI (c (pl k)) ∧ nI (c (pl k)) ≤ 122) = decide (Lt (c (pl k))) := by
      apply decide_eq_decide.2
      rw [nN_lle (by omega) (by decide), nN_lel (by omega) (by decide)]
    have d2 : decide ((48 : Int32) ≤ nI (c (pl k)) ∧ nI (c (pl k)) ≤ 57) = decide (Dg (c (pl k))) := by
      apply decide_eq_decide.2
      rw [nN_lle (by omega) (by decide), nN_lel (by omega) (by decide)]
    rw [d1, d2]
    simp only [bI_0]
    by_cases l1 : Lt (c (pl k))
    · rw [decide_eq_true l1]
      obtain ⟨e, t1, b1, b2, b3, b4, b5, b6, b7, b8, b9⟩ := sw5 (p := pl k) k1 k2 (L - (pl k + 0)) 0 4000 (uJ (uI T 1 2 (nI (pl k))) 1 6 0) (hc1.fr STF.wJ) w3 uJ_s (fun i _ _ => by omega) (by omega) (by omega)
      have hqe : pl k < e := by
        by_cases z : pl k < e
        · exact z
        · obtain rfl : e = pl k := by omega
          exact absurd l1 (b5 q3)
      have ki : KI c L (pl k) e (if e - pl k ≤ 8 then 1 else 4) := .inl ⟨⟨hqe, b3, b4, b5⟩, rfl⟩
      obtain ⟨rfl, hs⟩ := ki.un q7
      have p2 : t1.1 1 2 = nI (pl k) := b9.trans (by show (uI T 1 2 (nI (pl k))).1 1 2 = _; exact uI_s)
      unfold tX7_scanWord
      rw [if_neg (by decide), ob_s, b1, ob_s, b6, p2, nN_su (by omega)]
      have sv : (if (8 : Int32) < nI (bh (k + 1) - pl k) then some (4 : Int32) else some (1 : Int32)) = some (nI (so k)) := by
        rw [← hs]
        by_cases c8 : bh (k + 1) - pl k ≤ 8
        · rw [if_pos c8, if_neg (fun z => by have := (nN_llt (by omega) (by decide)).1 z; omega)]
          rfl
        · rw [if_neg c8, if_pos ((nN_llt (by omega) (by decide)).2 (by omega))]
          rfl
      rw [sv]
      refine ⟨_, rfl, ⟨?_, ?_, ?_, uI_s, fun _ => b7, fun z => ?_⟩, (f1.tr (STF.wJ.tr b8)).tr (STF.wI (by omega))⟩
      · exact ((hc1.fr STF.wJ).fr b8).fr (STF.wI (by omega))
      · rw [uI_o (by omega)]; exact p2
      · rw [uI_o (by omega)]; exact b6
      · rw [← hs] at z
        split at z <;> cases z
    · rw [decide_eq_false l1]
      by_cases l2 : Dg (c (pl k))
      · rw [decide_eq_true l2]
        obtain ⟨e, t1, b1, b2, b3, b4, b5, b6, b7, b8, b9⟩ := sn5 (p := pl k) k1 k2 (L - (pl k + 0)) 0 4000 (uI (uI T 1 2 (nI (pl k))) 1 5 0) (hc1.fr (STF.wI (by omega))) (by rw [uI_o (by omega)]; exact w3) uI_s (fun i _ _ => by omega) (by omega) (by omega)
        have hqe : pl k < e := by
          by_cases z : pl k < e
          · exact z
          · obtain rfl : e = pl k := by omega
            exact absurd l2 (b5 q3)
        have ki : KI c L (pl k) e (if e - pl k ≤ 4 then 2 else 4) := .inr (.inl ⟨⟨hqe, b3, b4, b5⟩, rfl⟩)
        obtain ⟨rfl, hs⟩ := ki.un q7
        have p2 : t1.1 1 2 = nI (pl k) := b9.trans (by rw [uI_o (by omega)]; exact uI_s)
        unfold tX7_scanNumber
        rw [if_pos rfl, ob_s, if_neg (show ¬ bI true = 0 by decide), ob_s, b1, ob_s, b6, p2, nN_su (by omega)]
        have sv : (if (4 : Int32) < nI (bh (k + 1) - pl k) then some (4 : Int32) else some (2 : Int32)) = some (nI (so k)) := by
          rw [← hs]
          by_cases c8 : bh (k + 1) - pl k ≤ 4
          · rw [if_pos c8, if_neg (fun z => by have := (nN_llt (by omega) (by decide)).1 z; omega)]
            rfl
          · rw [if_neg c8, if_pos ((nN_llt (by omega) (by decide)).2 (by omega))]
            rfl
        rw [sv]
        refine ⟨_, rfl, ⟨?_, ?_, ?_, uI_s, fun z => ?_, fun _ => ?_⟩, (f1.tr ((STF.wI (by omega)).tr b8)).tr (STF.wI (by omega))⟩
        · exact ((hc1.fr (STF.wI (by omega))).fr b8).fr (STF.wI (by omega))
        · rw [uI_o (by omega)]; exact p2
        · rw [uI_o (by omega)]; exact b6
        · rw [← hs] at z
          split at z <;> cases z
        · rw [uI_o (by omega)]; exact b7
      · rw [decide_eq_false l2, if_pos rfl, ob_s, if_pos (show bI false = 0 by decide), w3, nN_al, ob_s, sg_C (by omega), ob_s]
        have ki : KI c L (pl k) (pl k + 1) (if Sg (c (pl k)) then 3 else 4) := .inr (.inr ⟨l1, l2, q3, rfl, rfl⟩)
        obtain ⟨he, hs⟩ := ki.un q7
        have sv : (if bI (Sg (c (pl k))) = 0 then some (4 : Int32) else some (3 : Int32)) = some (nI (so k)) := by
          rw [← hs]
          cases Sg (c (pl k)) <;> rfl
        rw [sv]
        refine ⟨_, rfl, ⟨?_, ?_, ?_, uI_s, fun z => ?_, fun z => ?_⟩, (f1.tr (STF.wI (by omega))).tr (STF.wI (by omega))⟩
        · exact (hc1.fr (STF.wI (by omega))).fr (STF.wI (by omega))
        · rw [uI_o (by omega), uI_o (by omega)]; exact uI_s
        · rw [uI_o (by omega), uI_s, he]
        · rw [← hs] at z
          split at z <;> cases z
        · rw [← hs] at z
          split at z <;> cases z
  · obtain rfl : k = M := by omega
    obtain rfl : e = L := by
      by_cases z : e < L
      · exact absurd (k9 e a2 z) (a5 z)
      · omega
    rw [if_neg (by rw [nN_lt (by omega) (by omega)]; omega)]
    refine ⟨_, rfl, ⟨?_, ?_, ?_, ?_, fun z => ?_, fun z => ?_⟩, f1.tr (STF.wI (by omega))⟩
    · exact hc1.fr (STF.wI (by omega))
    · rw [uI_o (by omega), uI_s, k7]
    · rw [uI_o (by omega), k5]; exact w3
    · rw [uI_s, k6]
      rfl
    · rw [k6] at z; cases z
    · rw [k6] at z; cases z
end
