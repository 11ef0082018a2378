/-! ===== PURE: laying ===== -/
section
variable {v nh nd st a b n m : Nat} {V : Nat → Nat → Nat} {S : Nat → Nat → Int32} {t0 t0' t t' : tS}
theorem sub_rc (x y z : Int32) : x - y - z = x - z - y := by
  rw [Int32.sub_eq_add_neg, Int32.sub_eq_add_neg, Int32.sub_eq_add_neg, Int32.sub_eq_add_neg, Int32.add_assoc, Int32.add_assoc, Int32.add_comm (-y) (-z)]
theorem fb_cg {A B : Nat → Int32} {x s : Int32} : ∀ k, (∀ e, e < k → (A e = x ↔ B e = x)) → fb V A x s k = fb V B x s k := by
  intro k
  induction k with
  | zero => intro _; rfl
  | succ k ih =>
    intro h
    unfold fb
    rw [ih (fun e he => h e (by omega))]
    by_cases c : A k = x
    · rw [if_pos c, if_pos ((h k (by omega)).1 c)]
    · rw [if_neg c, if_neg (fun z => c ((h k (by omega)).2 z))]
theorem gs_cg {A B : Nat → Int32} {x : Int32} : ∀ k, (∀ e, e < k → (A e = x ↔ B e = x)) → gs A x k = gs B x k := by
  intro k
  induction k with
  | zero => intro _; rfl
  | succ k ih =>
    intro h
    unfold gs
    rw [ih (fun e he => h e (by omega))]
    by_cases c : A k = x
    · rw [if_pos c, if_pos ((h k (by omega)).1 c)]
    · rw [if_neg c, if_neg (fun z => c ((h k (by omega)).2 z))]
theorem fb_no {A : Nat → Int32} {x s : Int32} : ∀ k, (∀ e, e < k → ¬ A e = x) → fb V A x s k = s := by
  intro k
  induction k with
  | zero => intro _; rfl
  | succ k ih =>
    intro h
    unfold fb
    rw [ih (fun e he => h e (by omega)), if_neg (h k (by omega)), Int32.sub_zero]
theorem gs_no {A : Nat → Int32} {x : Int32} : ∀ k, (∀ e, e < k → ¬ A e = x) → gs A x k = 0 := by
  intro k
  induction k with
  | zero => intro _; rfl
  | succ k ih =>
    intro h
    unfold gs
    rw [ih (fun e he => h e (by omega)), if_neg (h k (by omega))]
theorem fb_up {A B : Nat → Int32} {d : Nat} {x s : Int32} (h1 : ¬ A d = x) (h2 : B d = x) (h3 : ∀ e, e ≠ d → B e = A e) : ∀ k, fb V B x s k = if d < k then fb V A x s k - nI (wd V d) else fb V A x s k := by
  intro k
  induction k with
  | zero => rw [if_neg (by omega)]; rfl
  | succ k ih =>
    unfold fb
    rw [ih]
    by_cases c : k = d
    · subst c
      rw [if_neg (by omega), if_pos h2, if_neg h1, if_pos (by omega), Int32.sub_zero]
    · rw [h3 k c]
      by_cases c2 : d < k
      · rw [if_pos c2, if_pos (show d < k + 1 by omega), sub_rc]
      · rw [if_neg c2, if_neg (show ¬ d < k + 1 by omega)]
theorem gs_up {A B : Nat → Int32} {d k : Nat} {x : Int32} (hd : d < k) (h2 : B d = x) (h3 : ∀ e, e ≠ d → B e = A e) : gs A x k ||| 2 ^ d = gs B x k := by
  apply Nat.eq_of_testBit_eq
  intro j
  rw [Nat.testBit_or, gs_tb, gs_tb, Nat.testBit_two_pow]
  by_cases c : j = d
  · subst c
    simp [hd, h2]
  · rw [h3 j c]
    have : ¬ d = j := fun z => c z.symm
    simp [this]
theorem gs_dn {A B : Nat → Int32} {d k : Nat} {x : Int32} (hk : k ≤ 6) (hd : d < k) (h1 : ¬ A d = x) (h3 : ∀ e, e ≠ d → B e = A e) : gs B x k &&& (63 - 2 ^ d) = gs A x k := by
  apply Nat.eq_of_testBit_eq
  intro j
  rw [Nat.testBit_and, gs_tb, gs_tb]
  by_cases c9 : j < 6
  · rw [m63 d (by omega) j c9]
    by_cases c : j = d
    · subst c
      simp [h1]
    · rw [h3 j c]
      simp [c]
  · rw [decide_eq_false (show ¬ j < k by omega)]
    simp
/-- the class's room and days laid, against where the days lie -/
def LYR (V : Nat → Nat → Nat) (nh nd : Nat) (S : Nat → Nat → Int32) (T : tS) : Prop := ∀ j, j < nh → T.2.1 179 j = fb V (S 4) (nI j) (S 1 j) nd ∧ T.2.1 180 j = nI (gs (S 4) (nI j) nd)
theorem YQ.w {c i : Nat} {x : Int32} {T : tS} (h : YQ t T) (hc : 179 ≤ c ∧ c ≤ 181) : YQ t (uA T c i x) := by
  refine h.tr ⟨fun _ _ _ => rfl, fun b j _ _ _ h4 => ?_, rfl, rfl⟩
  rw [uA_2, if_neg (by omega)]
theorem lyL {w p q N : Nat} (h : GP v w p q nh nd st V N t t') {N4 : Nat → Int32} (hN : ∀ d, d < nd → t.2.1 7 d = N4 d ∧ t'.2.1 234 (6 + d) = N4 d ∧ (N4 d = -1 ∨ NN (N4 d) nh)) {t0 t0' : tS} (hz0 : ZQ t' t0') : ∀ (k d f f' : Nat) (S : Nat → Nat → Int32) (T T' U : tS), d + k = nd → k < f → k < f' → PQ v nh nd st V n m S t0 t0' U T' → YQ t T → (∀ e, d ≤ e → e < nd → S 4 e = -1) → LYR V nh nd S T → ∃ r T1 T1' U1, gtX9_waysFrom f 0 (nI d) T = some (r, T1) ∧ gtX10_laysFrom f' 0 (nI d) T' = some (r, T1') ∧ PQ v nh nd st V n m S t0 t0' U1 T1' ∧ YQ t T1 ∧ LYR V nh nd S T1 := by
  have h6 := h.h6
  have h4 := h.h4
  intro k
  induction k with
  | zero =>
    intro d f f' S T T' U hd hf hf' hp hy hs hl
    obtain ⟨f, rfl⟩ : ∃ g, f = g + 1 := ⟨f - 1, by omega⟩
    obtain ⟨f', rfl⟩ : ∃ g, f' = g + 1 := ⟨f' - 1, by omega⟩
    obtain rfl : d = nd := by omega
    have rv : T.2.2.2.2 0 9 = v := (h.q hy ZQ.rf).2.2.1.1
    have cd : T.1 v 12 = nI d := (h.q hy ZQ.rf).2.2.2.1.2.2.1.2.1
    rw [gtX9_waysFrom, gtX10_laysFrom]
    have z : ¬ d < d := by omega
    simp (disch := omega) only [tA_e, tA_l, tW0_e, tW0_l, nN_al, nN_la, nN_ad, nN_lm, nN_ml, nN_le, nN_lt, nN_eq, nN_lel, nN_lle, nN_ltl, nN_llt, nN_eql, nN_rm, nN_dv, ob_s, ob_2, ob_3, ite_true, ite_false, not_true_eq_false, not_false_eq_true, ite_self, eq_self, Nat.add_zero, rv, cd, hp.1.days, z]
    exact ⟨_, _, _, _, rfl, rfl, hp, hy, hl⟩
  | succ k ih =>
    intro d f f' S T T' U hd hf hf' hp hy hs hl
    obtain ⟨f, rfl⟩ : ∃ g, f = g + 1 := ⟨f - 1, by omega⟩
    obtain ⟨f', rfl⟩ : ∃ g, f' = g + 1 := ⟨f' - 1, by omega⟩
    have hdn : d < nd := by omega
    have hne : ¬ d = nd := by omega
    have rv : T.2.2.2.2 0 9 = v := (h.q hy ZQ.rf).2.2.1.1
    have cd : T.1 v 12 = nI nd := (h.q hy ZQ.rf).2.2.2.1.2.2.1.2.1
    have hvv := h.1
    obtain ⟨n1, n2, n3⟩ := hN d hdn
    have gm := NN.m1 (by omega) n3
    have e1 : T.2.1 7 d = N4 d := (hy.2.1 _ _ (by omega) (by omega) (by omega) (by omega)).trans n1
    have e2 : T'.2.1 234 (6 + d) = N4 d := by
      rw [hp.fr.2.2.1 _ _ (by omega) (by omega) (by omega), hz0.2.1 _ _ (by omega) (by omega) (by omega) (by omega)]
      exact n2
    have e3 : T.2.1 (v + 10) d = nI (wd V d) := (h.q hy ZQ.rf).2.2.2.1.2.2.1.2.2.2.2.2.2.2.2.2.2 d hdn
    rw [gtX9_waysFrom, gtX10_laysFrom]
    simp (disch := omega) only [tA_e, tA_l, tW0_e, tW0_l, nN_al, nN_la, nN_ad, nN_lm, nN_ml, nN_le, nN_lt, nN_eq, nN_lel, nN_lle, nN_ltl, nN_llt, nN_eql, nN_rm, nN_dv, ob_s, ob_2, ob_3, ite_true, ite_false, not_true_eq_false, not_false_eq_true, ite_self, eq_self, Nat.add_zero, rv, cd, hp.1.days, eq_true hdn, hne, e1, e2, e3, gm.2]
    by_cases c : N4 d = -1
    · simp only [tA_e, tA_l, tW0_e, tW0_l, nN_al, nN_la, nN_ad, nN_lm, nN_ml, nN_le, nN_lt, nN_eq, nN_lel, nN_lle, nN_ltl, nN_llt, nN_eql, nN_rm, nN_dv, ob_s, ob_2, ob_3, ite_true, ite_false, not_true_eq_false, not_false_eq_true, ite_self, eq_self, Nat.add_zero, eq_true c]
      obtain ⟨r, T1, T1', U1, a1, a2, a3, a4, a5⟩ := ih (d + 1) f f' S T T' U (by omega) (by omega) (by omega) hp hy (fun e he => hs e (by omega)) hl
      rw [a1, a2]
      exact ⟨r, T1, T1', U1, rfl, rfl, a3, a4, a5⟩
    · simp only [tA_e, tA_l, tW0_e, tW0_l, nN_al, nN_la, nN_ad, nN_lm, nN_ml, nN_le, nN_lt, nN_eq, nN_lel, nN_lle, nN_ltl, nN_llt, nN_eql, nN_rm, nN_dv, ob_s, ob_2, ob_3, ite_true, ite_false, not_true_eq_false, not_false_eq_true, ite_self, eq_self, Nat.add_zero, c]
      have loop : ∀ (i j F F' : Nat) (x : Int32) (T T' U : tS), j + i = nh → i < F → i < F' → PQ v nh nd st V n m S t0 t0' U T' → YQ t T → LYR V nh nd S T → ∃ r T1 T1' U1, tX9_waysFrom_L49 (gtX9_waysFrom f) F (nI d) x (nI (wd V d)) (nI j) T = some (r, T1) ∧ tX10_laysFrom_L34 (gtX10_laysFrom f') F' (nI d) x (nI j) T' = some (r, T1') ∧ PQ v nh nd st V n m S t0 t0' U1 T1' ∧ YQ t T1 ∧ LYR V nh nd S T1 := by
        intro i
        induction i with
        | zero =>
          intro j F F' x T T' U hj hF hF' hp hy hl
          obtain ⟨F, rfl⟩ : ∃ g, F = g + 1 := ⟨F - 1, by omega⟩
          obtain ⟨F', rfl⟩ : ∃ g, F' = g + 1 := ⟨F' - 1, by omega⟩
          obtain rfl : j = nh := by omega
          have rv : T.2.2.2.2 0 9 = v := (h.q hy ZQ.rf).2.2.1.1
          have ch : T.1 v 11 = nI j := (h.q hy ZQ.rf).2.2.2.1.2.2.1.1
          rw [tX9_waysFrom_L49, tX10_laysFrom_L34]
          simp (disch := omega) only [tA_e, tA_l, tW0_e, tW0_l, nN_al, nN_la, nN_ad, nN_lm, nN_ml, nN_le, nN_lt, nN_eq, nN_lel, nN_lle, nN_ltl, nN_llt, nN_eql, nN_rm, nN_dv, ob_s, ob_2, ob_3, ite_true, ite_false, not_true_eq_false, not_false_eq_true, ite_self, eq_self, Nat.add_zero, rv, ch, hp.1.houses, Nat.le_refl]
          exact ⟨_, _, _, _, rfl, rfl, hp, hy, hl⟩
        | succ i ihi =>
          intro j F F' x T T' U hj hF hF' hp hy hl
          obtain ⟨F, rfl⟩ : ∃ g, F = g + 1 := ⟨F - 1, by omega⟩
          obtain ⟨F', rfl⟩ : ∃ g, F' = g + 1 := ⟨F' - 1, by omega⟩
          have c1 : ¬ nh ≤ j := by omega
          have hjn : j < nh := by omega
          have rv : T.2.2.2.2 0 9 = v := (h.q hy ZQ.rf).2.2.1.1
          have ch : T.1 v 11 = nI nh := (h.q hy ZQ.rf).2.2.2.1.2.2.1.1
          have v9 : T.2.1 (v + 9) d = nI (V 9 d) := (h.q hy ZQ.rf).2.2.2.1.2.2.1.2.2.2.2.2.2.2.2.2.1 d hdn
          obtain ⟨l1, l2⟩ := hl j hjn
          have dh : tX10_doesHold 987 (nI j) (nI d) T' = some (bI (hol V S nd j d)) := hp.1.doesHold hjn hdn
          have sd : S 4 d = -1 := hs d (Nat.le_refl _) hdn
          have nj : ¬ (-1 : Int32) = nI j := fun z => nN_ne1 (by omega) z.symm
          rw [tX9_waysFrom_L49, tX10_laysFrom_L34]
          simp (disch := omega) only [tA_e, tA_l, tW0_e, tW0_l, nN_al, nN_la, nN_ad, nN_lm, nN_ml, nN_le, nN_lt, nN_eq, nN_lel, nN_lle, nN_ltl, nN_llt, nN_eql, nN_rm, nN_dv, ob_s, ob_2, ob_3, ite_true, ite_false, not_true_eq_false, not_false_eq_true, ite_self, eq_self, Nat.add_zero, rv, ch, hp.1.houses, c1, l1, l2, v9, dh, bI_0]
          by_cases c2 : fb V (S 4) (nI j) (S 1 j) nd < nI (wd V d)
          · have hh : hol V S nd j d = false := by
              unfold hol
              simp [c2]
            simp only [tA_e, tA_l, tW0_e, tW0_l, nN_al, nN_la, nN_ad, nN_lm, nN_ml, nN_le, nN_lt, nN_eq, nN_lel, nN_lle, nN_ltl, nN_llt, nN_eql, nN_rm, nN_dv, ob_s, ob_2, ob_3, ite_true, ite_false, not_true_eq_false, not_false_eq_true, ite_self, eq_self, Nat.add_zero, eq_true c2, hh]
            exact ihi (j + 1) F F' x T T' U (by omega) (by omega) (by omega) hp hy hl
          · by_cases c3 : (nI (gs (S 4) (nI j) nd) &&& nI (V 9 d)) = 0
            · have hh : hol V S nd j d = true := by
                unfold hol
                simp [c2, c3]
              have hS2 : ∀ e, e ≠ d → up2 S 4 d (nI j) 4 e = S 4 e := fun e he => up2_d he
              have hS2d : up2 S 4 d (nI j) 4 d = nI j := up2_s
              have hA : ¬ S 4 d = nI j := by rw [sd]; exact nj
              have hg := gs_lt (S 4) (nI j) nd
              have p64 : 2 ^ nd ≤ 64 := by rw [show 64 = 2 ^ 6 from rfl]; exact Nat.pow_le_pow_right (by decide) h6
              have other : ∀ i2, i2 < nh → i2 ≠ j → ∀ e, e < nd → (up2 S 4 d (nI j) 4 e = nI i2 ↔ S 4 e = nI i2) := by
                intro i2 hi2 hne2 e he
                by_cases ce : e = d
                · subst ce
                  rw [hS2d, sd]
                  constructor
                  · intro z
                    exact absurd ((nN_eq (by omega) (by omega)).1 z).symm hne2
                  · intro z
                    exact absurd z.symm (nN_ne1 (by omega))
                · rw [hS2 e ce]
              have o1 : ∀ k9, up2 S 4 d (nI j) 1 k9 = S 1 k9 := fun k9 => up2_o (by decide)
              have fj : fb V (up2 S 4 d (nI j) 4) (nI j) (S 1 j) nd = fb V (S 4) (nI j) (S 1 j) nd - nI (wd V d) := by
                rw [fb_up hA hS2d hS2 nd, if_pos hdn]
              have gj : gs (S 4) (nI j) nd ||| 2 ^ d = gs (up2 S 4 d (nI j) 4) (nI j) nd := gs_up hdn hS2d hS2
              have r1 : (uA T 179 j (fb V (S 4) (nI j) (S 1 j) nd - nI (wd V d))).2.1 180 j = nI (gs (S 4) (nI j) nd) := by
                rw [uA_2, if_neg (by omega)]
                exact l2
              have hy2 : YQ t (uA (uA T 179 j (fb V (S 4) (nI j) (S 1 j) nd - nI (wd V d))) 180 j (nI (gs (S 4) (nI j) nd ||| 2 ^ d))) := (hy.w (by omega)).w (by omega)
              have hl2 : LYR V nh nd (up2 S 4 d (nI j)) (uA (uA T 179 j (fb V (S 4) (nI j) (S 1 j) nd - nI (wd V d))) 180 j (nI (gs (S 4) (nI j) nd ||| 2 ^ d))) := by
                intro i2 hi2
                rw [o1]
                by_cases ci : i2 = j
                · subst ci
                  rw [uA_2, if_neg (by omega), uA_2, if_pos ⟨rfl, rfl⟩, uA_2, if_pos ⟨rfl, rfl⟩, fj, gj]
                  exact ⟨rfl, rfl⟩
                · rw [uA_2, if_neg (by omega), uA_2, if_neg (by omega), uA_2, if_neg (by omega), uA_2, if_neg (by omega), fb_cg nd (other i2 hi2 ci), gs_cg nd (other i2 hi2 ci)]
                  exact hl i2 hi2
              have hp2 := hp.w4 hdn (x := nI j) (.inr ⟨j, hjn, rfl⟩)
              obtain ⟨r, T3, T3', U3, a1, a2, a3, a4, a5⟩ := ih (d + 1) f f' (up2 S 4 d (nI j)) _ _ _ (by omega) (by omega) (by omega) hp2 hy2 (fun e he hen => by rw [hS2 e (by omega)]; exact hs e (by omega) hen) hl2
              obtain ⟨m1, m2⟩ := a5 j hjn
              rw [o1, fj] at m1
              have hg2 := gs_lt (up2 S 4 d (nI j) 4) (nI j) nd
              have r2 : (uA T3 180 j (nI (gs (S 4) (nI j) nd))).2.1 179 j = fb V (S 4) (nI j) (S 1 j) nd - nI (wd V d) := by
                rw [uA_2, if_neg (by omega)]
                exact m1
              have r3 : nI (gs (up2 S 4 d (nI j) 4) (nI j) nd) &&& (nI (2 ^ d) ^^^ (-1 : Int32)) = nI (gs (S 4) (nI j) nd) := by
                rw [clr_e (by omega) (by omega), gs_dn h6 hdn hA hS2]
              have r4 : fb V (S 4) (nI j) (S 1 j) nd - nI (wd V d) + nI (wd V d) = fb V (S 4) (nI j) (S 1 j) nd := Int32.sub_add_cancel _ _
              have hy3 : YQ t (uA (uA T3 180 j (nI (gs (S 4) (nI j) nd))) 179 j (fb V (S 4) (nI j) (S 1 j) nd)) := (a4.w (by omega)).w (by omega)
              have hl3 : LYR V nh nd S (uA (uA T3 180 j (nI (gs (S 4) (nI j) nd))) 179 j (fb V (S 4) (nI j) (S 1 j) nd)) := by
                intro i2 hi2
                by_cases ci : i2 = j
                · subst ci
                  rw [uA_2, if_pos ⟨rfl, rfl⟩, uA_2, if_neg (by omega), uA_2, if_pos ⟨rfl, rfl⟩]
                  exact ⟨rfl, rfl⟩
                · rw [uA_2, if_neg (by omega), uA_2, if_neg (by omega), uA_2, if_neg (by omega), uA_2, if_neg (by omega)]
                  have := a5 i2 hi2
                  rw [o1, fb_cg nd (other i2 hi2 ci), gs_cg nd (other i2 hi2 ci)] at this
                  exact this
              have hp3 := a3.w4 hdn (x := -1) (.inl rfl)
              have hSS : up2 (up2 S 4 d (nI j)) 4 d (-1) = S := by
                funext k9 e9
                by_cases cc : k9 = 4 ∧ e9 = d
                · rw [cc.1, cc.2, up2_s, sd]
                · unfold up2
                  rw [if_neg cc, if_neg cc]
              rw [hSS] at hp3
              simp (disch := omega) only [tA_e, tA_l, tW0_e, tW0_l, nN_al, nN_la, nN_ad, nN_lm, nN_ml, nN_le, nN_lt, nN_eq, nN_lel, nN_lle, nN_ltl, nN_llt, nN_eql, nN_rm, nN_dv, ob_s, ob_2, ob_3, ite_true, ite_false, not_true_eq_false, not_false_eq_true, ite_self, eq_self, Nat.add_zero, c2, eq_true c3, hh, Bool.true_eq_false, r1, nN_shl, nN_or, a1, a2, m2, r3, r2, r4]
              exact ihi (j + 1) F F' (x + r) _ _ _ (by omega) (by omega) (by omega) hp3 hy3 hl3
            · have hh : hol V S nd j d = false := by
                unfold hol
                simp [c3]
              simp only [tA_e, tA_l, tW0_e, tW0_l, nN_al, nN_la, nN_ad, nN_lm, nN_ml, nN_le, nN_lt, nN_eq, nN_lel, nN_lle, nN_ltl, nN_llt, nN_eql, nN_rm, nN_dv, ob_s, ob_2, ob_3, ite_true, ite_false, not_true_eq_false, not_false_eq_true, ite_self, eq_self, Nat.add_zero, c2, c3, hh]
              exact ihi (j + 1) F F' x T T' U (by omega) (by omega) (by omega) hp hy hl
      obtain ⟨r, T1, T1', U1, a1, a2, a3, a4, a5⟩ := loop nh 0 4000 4000 0 T T' U (by omega) (by omega) (by omega) hp hy hl
      rw [show nI 0 = (0 : Int32) from rfl] at a1 a2
      rw [a1, a2]
      exact ⟨r, T1, T1', U1, rfl, rfl, a3, a4, a5⟩
theorem layC {w p q N : Nat} (h : GP v w p q nh nd st V N t t') : ∀ (k i f : Nat) (T : tS), i + k = nh → k < f → YQ t T → ∃ T1, tX9_laying_L2 f (nI i) T = some T1 ∧ YQ t T1 ∧ (∀ j, j < i → T1.2.1 179 j = T.2.1 179 j ∧ T1.2.1 180 j = T.2.1 180 j) ∧ ∀ j, i ≤ j → j < nh → T1.2.1 179 j = t.2.1 4 j ∧ T1.2.1 180 j = nI 0 := by
  have h4 := h.h4
  intro k
  induction k with
  | zero =>
    intro i f T hi hf hy
    obtain ⟨f, rfl⟩ : ∃ g, f = g + 1 := ⟨f - 1, by omega⟩
    obtain rfl : i = nh := by omega
    have rv : T.2.2.2.2 0 9 = v := (h.q hy ZQ.rf).2.2.1.1
    have ch : T.1 v 11 = nI i := (h.q hy ZQ.rf).2.2.2.1.2.2.1.1
    rw [tX9_laying_L2]
    simp (disch := omega) only [tA_e, tA_l, tW0_e, tW0_l, nN_al, nN_la, nN_ad, nN_lm, nN_ml, nN_le, nN_lt, nN_eq, nN_lel, nN_lle, nN_ltl, nN_llt, nN_eql, nN_rm, nN_dv, ob_s, ob_2, ob_3, ite_true, ite_false, not_true_eq_false, not_false_eq_true, ite_self, eq_self, Nat.add_zero, rv, ch, Nat.le_refl]
    exact ⟨_, rfl, hy, fun _ _ => ⟨rfl, rfl⟩, fun j _ _ => by omega⟩
  | succ k ih =>
    intro i f T hi hf hy
    obtain ⟨f, rfl⟩ : ∃ g, f = g + 1 := ⟨f - 1, by omega⟩
    have c1 : ¬ nh ≤ i := by omega
    have rv : T.2.2.2.2 0 9 = v := (h.q hy ZQ.rf).2.2.1.1
    have ch : T.1 v 11 = nI nh := (h.q hy ZQ.rf).2.2.2.1.2.2.1.1
    have e4 : T.2.1 4 i = t.2.1 4 i := hy.2.1 _ _ (by omega) (by omega) (by omega) (by omega)
    rw [tX9_laying_L2]
    simp (disch := omega) only [tA_e, tA_l, tW0_e, tW0_l, nN_al, nN_la, nN_ad, nN_lm, nN_ml, nN_le, nN_lt, nN_eq, nN_lel, nN_lle, nN_ltl, nN_llt, nN_eql, nN_rm, nN_dv, ob_s, ob_2, ob_3, ite_true, ite_false, not_true_eq_false, not_false_eq_true, ite_self, eq_self, Nat.add_zero, rv, ch, c1, e4]
    obtain ⟨T1, a1, a2, a3, a4⟩ := ih (i + 1) f (uA (uA T 179 i (t.2.1 4 i)) 180 i 0) (by omega) (by omega) ((hy.w (by omega)).w (by omega))
    refine ⟨T1, a1, a2, ?_, ?_⟩
    · intro j hj
      obtain ⟨b1, b2⟩ := a3 j (by omega)
      rw [b1, b2, uA_2, if_neg (by omega), uA_2, if_neg (by omega), uA_2, if_neg (by omega), uA_2, if_neg (by omega)]
      exact ⟨rfl, rfl⟩
    · intro j h1 h2
      by_cases c : j = i
      · subst c
        obtain ⟨b1, b2⟩ := a3 j (by omega)
        rw [b1, b2, uA_2, if_neg (by omega), uA_2, if_pos ⟨rfl, rfl⟩, uA_2, if_pos ⟨rfl, rfl⟩]
        exact ⟨rfl, rfl⟩
      · exact a4 j (by omega) h2
theorem PQ.layM : ∀ (k i f : Nat) (S : Nat → Nat → Int32) (U T' : tS), PQ v nh nd st V n m S t0 t0' U T' → (∀ e, e < i → e < nd → S 4 e = -1) → i + k = 6 → k < f → ∃ S1 U1 T1', tX10_laying_L11 f (nI i) T' = some T1' ∧ PQ v nh nd st V n m S1 t0 t0' U1 T1' ∧ (∀ e, e < nd → S1 4 e = -1) ∧ ∀ j, S1 1 j = S 1 j := by
  intro k
  induction k with
  | zero =>
    intro i f S U T' h hs hi hf
    have h6 := h.1.h6
    obtain ⟨f, rfl⟩ : ∃ g, f = g + 1 := ⟨f - 1, by omega⟩
    obtain rfl : i = 6 := by omega
    rw [tX10_laying_L11]
    simp (disch := omega) only [tA_e, tA_l, tW0_e, tW0_l, nN_al, nN_la, nN_ad, nN_lm, nN_ml, nN_le, nN_lt, nN_eq, nN_lel, nN_lle, nN_ltl, nN_llt, nN_eql, nN_rm, nN_dv, ob_s, ob_2, ob_3, ite_true, ite_false, not_true_eq_false, not_false_eq_true, ite_self, eq_self, Nat.add_zero, Nat.le_refl]
    exact ⟨S, U, _, rfl, h, fun e he => hs e (by omega) he, fun _ => rfl⟩
  | succ k ih =>
    intro i f S U T' h hs hi hf
    have h6 := h.1.h6
    have h4 := h.1.h4
    obtain ⟨f, rfl⟩ : ∃ g, f = g + 1 := ⟨f - 1, by omega⟩
    have c1 : ¬ 6 ≤ i := by omega
    rw [tX10_laying_L11]
    simp (disch := omega) only [tA_e, tA_l, tW0_e, tW0_l, nN_al, nN_la, nN_ad, nN_lm, nN_ml, nN_le, nN_lt, nN_eq, nN_lel, nN_lle, nN_ltl, nN_llt, nN_eql, nN_rm, nN_dv, ob_s, ob_2, ob_3, ite_true, ite_false, not_true_eq_false, not_false_eq_true, ite_self, eq_self, Nat.add_zero, c1]
    by_cases c : i < nd
    · have w := h.w4 c (x := -1) (.inl rfl)
      obtain ⟨S1, U1, T1', a1, a2, a3, a4⟩ := ih (i + 1) f _ _ _ w (fun e he hen => by
        by_cases ce : e = i
        · rw [ce, up2_s]
        · rw [up2_d ce]
          exact hs e (by omega) hen) (by omega) (by omega)
      exact ⟨S1, U1, T1', a1, a2, a3, fun j => (a4 j).trans (up2_o (by decide))⟩
    · have w : PQ v nh nd st V n m S t0 t0' U (uA T' 234 (993 + i) (-1)) := by
        refine ⟨h.1.go CF.rf (MF.wA (by omega) (by omega)) h.1.2.2.2.2.2.1 ?_, h.2.1, h.2.2⟩
        obtain ⟨g1, g2, k1, k2, k3, k4, k5, k6⟩ := h.1.2.2.2.2.2.2.1
        refine ⟨?_, ?_, ?_, ?_, ?_, ?_, ?_, ?_⟩
        · rw [uA_2, if_neg (by omega)]; exact g1
        · rw [uA_2, if_neg (by omega)]; exact g2
        all_goals intro e he; rw [uA_2, if_neg (by omega)]
        · exact k1 e he
        · exact k2 e he
        · exact k3 e he
        · exact k4 e he
        · exact k5 e he
        · exact k6 e he
      exact ih (i + 1) f _ _ _ w (fun e he hen => hs e (by omega) hen) (by omega) (by omega)
theorem q_laying {w p q N : Nat} (h : GP v w p q nh nd st V N t t') : QA (tX9_laying t) (tX10_laying t') t t' := by
  have h4 := h.h4
  have h6 := h.h6
  obtain ⟨n, m, S, U, U', e1, e2, e3, e4, e5, e6, e7, e8, e9⟩ := h.qr.tries
  obtain ⟨T, a1, a2, _, a4⟩ := layC h nh 0 4000 t (by omega) (by omega) YQ.rf
  obtain ⟨S1, U1, T', b1, b2, b3, b4⟩ := PQ.layM 6 0 4000 S U U' e3 (fun e he => by omega) (by omega) (by omega)
  have l0 : LYR V nh nd S1 T := by
    intro j hj
    have no : ∀ e, e < nd → ¬ S1 4 e = nI j := fun e he z => nN_ne1 (by omega) ((z.symm).trans (b3 e he))
    obtain ⟨c1, c2⟩ := a4 j (by omega) hj
    rw [fb_no nd no, gs_no nd no, b4 j, c1, c2]
    exact ⟨e8.2.2.2.1 j hj, rfl⟩
  obtain ⟨r, T1, T1', U2, d1, d2, d3, d4, _⟩ := lyL (n := n) (m := m) (N4 := S 4) (t0 := t) (t0' := uI t' 218 0 0) h (fun d hd => ⟨e8.2.2.2.2.2.2.1 d hd, by have := e9.2.2.2.2.2.1 d hd; rw [show 0 + 6 + d = 6 + d from by omega] at this; exact this, (e3.2.1 d hd).2.2.1⟩) (ZQ.th (.inl rfl)) nd 0 60 60 S1 T T' U1 (by omega) (by omega) (by omega) b2 a2 (fun e _ he => b3 e he) l0
  rw [show nI 0 = (0 : Int32) from rfl] at a1 b1 d1 d2
  unfold tX9_laying tX10_laying tX9_waysFrom tX10_laysFrom
  simp only [ob_s, e2, a1, b1, d1, d2, ob_2]
  exact ⟨_, _, _, rfl, rfl, d4, (ZQ.th (.inl rfl)).tr (d3.fr.2.zq (by decide))⟩
end
