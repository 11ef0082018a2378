/-! ===== PURE: apart ===== -/
section
variable {v nh nd st a b n m : Nat} {V : Nat → Nat → Nat} {S : Nat → Nat → Int32} {t0 t0' t t' : tS}
/-- a set can be kept apart by k houses -/
def Col (V : Nat → Nat → Nat) (nd s k : Nat) : Prop := ∃ f : Nat → Nat, (∀ d, d < nd → s.testBit d = true → f d < k) ∧ ∀ d e, d < nd → e < nd → s.testBit d = true → s.testBit e = true → (V 9 d).testBit e = true → f d ≠ f e
/-- no two of a set clash -/
def Pcf (V : Nat → Nat → Nat) (nd s : Nat) : Prop := ∀ d, d < nd → s.testBit d = true → V 9 d &&& s = 0
theorem peL {w p q N s : Nat} (h : GP v w p q nh nd st V N t t') (hs : s < 64) {T : tS} (hy : YQ t T) : ∀ (k i f : Nat), i + k = nd → k < f → (tX9_isPeaceful_L2 f (nI s) (nI i) T = some (.inl ()) ∧ ∀ d, i ≤ d → d < nd → s.testBit d = true → V 9 d &&& s = 0) ∨ (tX9_isPeaceful_L2 f (nI s) (nI i) T = some (.inr 0) ∧ ∃ d, d < nd ∧ s.testBit d = true ∧ ¬ V 9 d &&& s = 0) := by
  have h6 := h.h6
  have rv : T.2.2.2.2 0 9 = v := (h.q hy ZQ.rf).2.2.1.1
  have cv := (h.q hy ZQ.rf).2.2.2.1.2.2.1
  intro k
  induction k with
  | zero =>
    intro i f hi hf
    obtain ⟨f, rfl⟩ : ∃ g, f = g + 1 := ⟨f - 1, by omega⟩
    obtain rfl : i = nd := by omega
    rw [tX9_isPeaceful_L2]
    simp (disch := omega) only [tA_e, tA_l, tW0_e, tW0_l, nN_al, nN_la, nN_ad, nN_lm, nN_ml, nN_le, nN_lt, nN_eq, nN_lel, nN_lle, nN_ltl, nN_llt, nN_eql, nN_rm, nN_dv, ob_s, ob_2, ob_3, ite_true, ite_false, not_true_eq_false, not_false_eq_true, ite_self, eq_self, Nat.add_zero, rv, cv.2.1, Nat.le_refl]
    exact .inl ⟨trivial, fun d _ _ => by omega⟩
  | succ k ih =>
    intro i f hi hf
    obtain ⟨f, rfl⟩ : ∃ g, f = g + 1 := ⟨f - 1, by omega⟩
    have c1 : ¬ nd ≤ i := by omega
    have hd : i < nd := by omega
    have v9 : T.2.1 (v + 9) i = nI (V 9 i) := cv.2.2.2.2.2.2.2.2.2.1 i hd
    have hb : V 9 i &&& s < 2147483648 := Nat.lt_of_le_of_lt Nat.and_le_right (by omega)
    rw [tX9_isPeaceful_L2]
    simp (disch := omega) only [tA_e, tA_l, tW0_e, tW0_l, nN_al, nN_la, nN_ad, nN_lm, nN_ml, nN_le, nN_lt, nN_eq, nN_lel, nN_lle, nN_ltl, nN_llt, nN_eql, nN_rm, nN_dv, ob_s, ob_2, ob_3, ite_true, ite_false, not_true_eq_false, not_false_eq_true, ite_self, eq_self, Nat.add_zero, rv, cv.2.1, c1, has_e, bI_0, v9, nN_and]
    have I := ih (i + 1) f (by omega) (by omega)
    cases hb2 : s.testBit i
    · simp only [tA_e, tA_l, tW0_e, tW0_l, nN_al, nN_la, nN_ad, nN_lm, nN_ml, nN_le, nN_lt, nN_eq, nN_lel, nN_lle, nN_ltl, nN_llt, nN_eql, nN_rm, nN_dv, ob_s, ob_2, ob_3, ite_true, ite_false, not_true_eq_false, not_false_eq_true, ite_self, eq_self, Nat.add_zero]
      rcases I with ⟨a1, a2⟩ | a
      · refine .inl ⟨a1, fun d h1 h2 h3 => ?_⟩
        by_cases c : d = i
        · subst c
          rw [hb2] at h3
          cases h3
        · exact a2 d (by omega) h2 h3
      · exact .inr a
    · by_cases c3 : V 9 i &&& s = 0
      · simp only [tA_e, tA_l, tW0_e, tW0_l, nN_al, nN_la, nN_ad, nN_lm, nN_ml, nN_le, nN_lt, nN_eq, nN_lel, nN_lle, nN_ltl, nN_llt, nN_eql, nN_rm, nN_dv, ob_s, ob_2, ob_3, ite_true, ite_false, not_true_eq_false, not_false_eq_true, ite_self, eq_self, Nat.add_zero, Bool.true_eq_false, eq_true c3]
        rcases I with ⟨a1, a2⟩ | a
        · refine .inl ⟨a1, fun d h1 h2 h3 => ?_⟩
          by_cases c : d = i
          · subst c
            exact c3
          · exact a2 d (by omega) h2 h3
        · exact .inr a
      · simp only [tA_e, tA_l, tW0_e, tW0_l, nN_al, nN_la, nN_ad, nN_lm, nN_ml, nN_le, nN_lt, nN_eq, nN_lel, nN_lle, nN_ltl, nN_llt, nN_eql, nN_rm, nN_dv, ob_s, ob_2, ob_3, ite_true, ite_false, not_true_eq_false, not_false_eq_true, ite_self, eq_self, Nat.add_zero, Bool.true_eq_false, c3]
        exact .inr ⟨trivial, i, hd, hb2, c3⟩
theorem pe_e {w p q N s : Nat} (h : GP v w p q nh nd st V N t t') (hs : s < 64) {T : tS} (hy : YQ t T) : ∃ c : Bool, tX9_isPeaceful (nI s) T = some (bI c) ∧ (c = true ↔ Pcf V nd s) := by
  have h6 := h.h6
  unfold tX9_isPeaceful
  rcases peL h hs hy nd 0 4000 (by omega) (by omega) with ⟨a1, a2⟩ | ⟨a1, d, a2, a3, a4⟩
  · have a1' : tX9_isPeaceful_L2 4000 (nI s) 0 T = some (.inl ()) := a1
    rw [a1']
    exact ⟨true, rfl, fun _ d hd hb => a2 d (by omega) hd hb, fun _ => rfl⟩
  · have a1' : tX9_isPeaceful_L2 4000 (nI s) 0 T = some (.inr 0) := a1
    rw [a1']
    exact ⟨false, rfl, fun z => absurd z (by decide), fun z => absurd (z d a2 a3) a4⟩
theorem sm_1a : ∀ s < 64, ∀ p < 64, p &&& s = p → 0 < p → (p - 1) &&& s < p ∧ ((p - 1) &&& s) &&& s = (p - 1) &&& s := by decide +kernel
theorem sm_1c : ((List.range 64).all fun s => (List.range 64).all fun p => cond (Nat.beq (p &&& s) p) ((List.range p).all fun q => cond (Nat.beq (q &&& s) q) (Nat.ble q ((p - 1) &&& s)) true) true) = true := by decide +kernel
theorem sm_1b {s p q : Nat} (hs : s < 64) (hp : p < 64) (h : p &&& s = p) (hq : q < p) (hqs : q &&& s = q) : q ≤ (p - 1) &&& s := by
  have h1 := List.all_eq_true.1 sm_1c s (List.mem_range.2 hs)
  have h2 := List.all_eq_true.1 h1 p (List.mem_range.2 hp)
  rw [h, Nat.beq_refl, cond_true] at h2
  have h3 := List.all_eq_true.1 h2 q (List.mem_range.2 hq)
  rw [hqs, Nat.beq_refl, cond_true] at h3
  exact Nat.le_of_ble_eq_true h3
theorem sm_1 {s p : Nat} (hs : s < 64) (hp : p < 64) (h : p &&& s = p) (h0 : 0 < p) : (p - 1) &&& s < p ∧ ((p - 1) &&& s) &&& s = (p - 1) &&& s ∧ ∀ q, q < p → q &&& s = q → q ≤ (p - 1) &&& s := ⟨(sm_1a s hs p hp h h0).1, (sm_1a s hs p hp h h0).2, fun q h1 h2 => sm_1b hs hp h h1 h2⟩
theorem sm_2 : ∀ s < 64, ∀ p < 64, p &&& s = p → p ≤ s ∧ nI s &&& (nI p ^^^ (-1 : Int32)) = nI (s - p) := by decide +kernel
theorem sm_3 : ∀ s < 64, ∀ p < 64, p &&& s = p → ∀ d < 6, (s - p).testBit d = (s.testBit d && !p.testBit d) := by decide +kernel
theorem min_e {x y : Nat} (hx : x < 1000) (hy : y < 1000) : tJ9_min_7cf53 (nI x) (nI y) t = some (nI (min x y)) := by
  unfold tJ9_min_7cf53
  by_cases c : y < x
  · rw [if_pos ((nN_lt (by omega) (by omega)).2 c), ob_s, show min x y = y from by omega]
  · rw [if_neg (fun z => c ((nN_lt (by omega) (by omega)).1 z)), ob_s, show min x y = x from by omega]
theorem fhL {w p q N s : Nat} (h : GP v w p q nh nd st V N t t') (hs : s < 64) {F : Nat → Nat} {T : tS} (hy : YQ t T) (hF : ∀ x, x < s → T.2.1 181 x = nI (F x) ∧ F x ≤ 6) : ∀ (m2 p f l : Nat), p ≤ m2 → p < 64 → p &&& s = p → l ≤ 6 → m2 < f → ∃ r, tX9_fewestHouses_L5 f (nI s) (nI l) (nI p) T = some (nI r) ∧ r ≤ 6 ∧ ∀ k, r ≤ k ↔ (l ≤ k ∨ ∃ q, 0 < q ∧ q ≤ p ∧ q &&& s = q ∧ Pcf V nd q ∧ 1 + F (s - q) ≤ k) := by
  intro m2
  induction m2 with
  | zero =>
    intro p f l hp hp6 hps hl hf
    obtain ⟨f, rfl⟩ : ∃ g, f = g + 1 := ⟨f - 1, by omega⟩
    obtain rfl : p = 0 := by omega
    rw [tX9_fewestHouses_L5, if_pos (by decide)]
    refine ⟨l, rfl, hl, fun k => ⟨.inl, fun z => ?_⟩⟩
    rcases z with z | ⟨q, z1, z2, _⟩
    · exact z
    · omega
  | succ m2 ih =>
    intro p f l hp hp6 hps hl hf
    obtain ⟨f, rfl⟩ : ∃ g, f = g + 1 := ⟨f - 1, by omega⟩
    by_cases c0 : p = 0
    · subst c0
      rw [tX9_fewestHouses_L5, if_pos (by decide)]
      refine ⟨l, rfl, hl, fun k => ⟨.inl, fun z => ?_⟩⟩
      rcases z with z | ⟨q, z1, z2, _⟩
      · exact z
      · omega
    · obtain ⟨g1, g2, g3⟩ := sm_1 hs hp6 hps (by omega)
      obtain ⟨g4, g5⟩ := sm_2 s hs p hp6 hps
      obtain ⟨b, b1, b2⟩ := pe_e h hp6 hy
      have cp : ¬ p ≤ 0 := by omega
      obtain ⟨f1, f2⟩ := hF (s - p) (by omega)
      have e1 : nI p - (1 : Int32) = nI (p - 1) := by
        rw [show (1 : Int32) = nI 1 from rfl, nN_su (by omega)]
      rw [tX9_fewestHouses_L5]
      simp (disch := omega) only [nN_lel, cp, ite_false, b1, ob_s, bI_0, g5, tA_e, f1, nN_la, min_e, e1, nN_and]
      cases b
      · simp only [ite_true, ob_s]
        obtain ⟨r, r1, r2, r3⟩ := ih ((p - 1) &&& s) f l (by omega) (by omega) g2 hl (by omega)
        refine ⟨r, r1, r2, fun k => (r3 k).trans ⟨fun z => ?_, fun z => ?_⟩⟩
        · rcases z with z | ⟨q, z1, z2, z3⟩
          · exact .inl z
          · exact .inr ⟨q, z1, by omega, z3⟩
        · rcases z with z | ⟨q, z1, z2, z3, z4, z5⟩
          · exact .inl z
          · by_cases cq : q = p
            · subst cq
              exact absurd (b2.2 z4) (by decide)
            · exact .inr ⟨q, z1, g3 q (by omega) z3, z3, z4, z5⟩
      · simp only [Bool.true_eq_false, ite_false, ob_s]
        obtain ⟨r, r1, r2, r3⟩ := ih ((p - 1) &&& s) f (min l (1 + F (s - p))) (by omega) (by omega) g2 (by omega) (by omega)
        refine ⟨r, r1, r2, fun k => (r3 k).trans ⟨fun z => ?_, fun z => ?_⟩⟩
        · rcases z with z | ⟨q, z1, z2, z3⟩
          · by_cases cl : l ≤ k
            · exact .inl cl
            · exact .inr ⟨p, by omega, Nat.le_refl _, hps, b2.1 rfl, by omega⟩
          · exact .inr ⟨q, z1, by omega, z3⟩
        · rcases z with z | ⟨q, z1, z2, z3, z4, z5⟩
          · exact .inl (by omega)
          · by_cases cq : q = p
            · subst cq
              exact .inl (by omega)
            · exact .inr ⟨q, z1, g3 q (by omega) z3, z3, z4, z5⟩
/-- the fewest houses of a set: by one peaceful part and the rest -/
theorem col_s (hV : VK nh nd st V) {s r : Nat} {F : Nat → Nat} (hs : s < 2 ^ nd) (hs0 : 0 < s) (hF : ∀ x, x < s → ∀ k, F x ≤ k ↔ Col V nd x k) (hr : ∀ k, r ≤ k ↔ (6 ≤ k ∨ ∃ q, 0 < q ∧ q ≤ s ∧ q &&& s = q ∧ Pcf V nd q ∧ 1 + F (s - q) ≤ k)) : ∀ k, r ≤ k ↔ Col V nd s k := by
  have h6 := hV.2.1
  have s64 : s < 64 := Nat.lt_of_lt_of_le hs (by rw [show 64 = 2 ^ 6 from rfl]; exact Nat.pow_le_pow_right (by decide) h6)
  intro k
  rw [hr k]
  constructor
  · intro z
    rcases z with z | ⟨q, z1, z2, z3, z4, z5⟩
    · refine ⟨fun d => d, fun d hd _ => (by show d < _; omega), fun d e hd he _ _ hc hde => ?_⟩
      have : d = e := hde
      subst this
      rw [hV.2.2.2.2.2.2.2 d hd] at hc
      cases hc
    · obtain ⟨f, f1, f2⟩ := (hF (s - q) (by omega) (k - 1)).1 (by omega)
      have tb : ∀ d, d < nd → (s - q).testBit d = (s.testBit d && !q.testBit d) := fun d hd => sm_3 s s64 q (by omega) z3 d (by omega)
      refine ⟨fun d => if q.testBit d = true then k - 1 else f d, fun d hd hb => ?_, fun d e hd he hbd hbe hc => ?_⟩
      · show (if q.testBit d = true then k - 1 else f d) < k
        by_cases c : q.testBit d = true
        · rw [if_pos c]
          omega
        · rw [if_neg c]
          have := f1 d hd (by rw [tb d hd, hb]; simp [c])
          omega
      · show (if q.testBit d = true then k - 1 else f d) ≠ (if q.testBit e = true then k - 1 else f e)
        by_cases c : q.testBit d = true
        · by_cases c2 : q.testBit e = true
          · exfalso
            have g := z4 d hd c
            have g2 : (V 9 d &&& q).testBit e = true := by rw [Nat.testBit_and, hc, c2]; rfl
            rw [g, Nat.zero_testBit] at g2
            cases g2
          · rw [if_pos c, if_neg c2]
            have := f1 e he (by rw [tb e he, hbe]; simp [c2])
            omega
        · by_cases c2 : q.testBit e = true
          · rw [if_neg c, if_pos c2]
            have := f1 d hd (by rw [tb d hd, hbd]; simp [c])
            omega
          · rw [if_neg c, if_neg c2]
            exact f2 d e hd he (by rw [tb d hd, hbd]; simp [c]) (by rw [tb e he, hbe]; simp [c2]) hc
  · have key : ∀ k, Col V nd s k → r ≤ k := by
      intro k
      induction k with
      | zero =>
        intro ⟨f, f1, _⟩
        exfalso
        have : ∃ d, d < nd ∧ s.testBit d = true := by
          have := Nat.exists_testBit_of_ne_zero (x := s) (by omega)
          obtain ⟨d, hd⟩ := this
          refine ⟨d, ?_, hd⟩
          by_cases c : d < nd
          · exact c
          · rw [Nat.testBit_lt_two_pow (Nat.lt_of_lt_of_le hs (Nat.pow_le_pow_right (by decide) (by omega)))] at hd
            cases hd
        obtain ⟨d, hd, hb⟩ := this
        exact absurd (f1 d hd hb) (by omega)
      | succ k ih =>
        intro ⟨f, f1, f2⟩
        -- the last house's days
        have tq : ∀ d, (gs (fun d => if s.testBit d = true ∧ f d = k then (0 : Int32) else 1) 0 nd).testBit d = (decide (d < nd) && (s.testBit d && decide (f d = k))) := by
          intro d
          rw [gs_tb]
          congr 1
          cases hb : s.testBit d
          · simp
          · by_cases c : f d = k
            · simp [c]
            · simp [c]
        generalize gs (fun d => if s.testBit d = true ∧ f d = k then (0 : Int32) else 1) 0 nd = q at tq
        have qs : q &&& s = q := by
          apply Nat.eq_of_testBit_eq
          intro d
          rw [Nat.testBit_and, tq]
          cases s.testBit d
          · simp
          · simp
        have qle : q ≤ s := by
          have : q &&& s ≤ s := Nat.and_le_right
          omega
        by_cases cq : q = 0
        · apply Nat.le_succ_of_le
          apply ih
          refine ⟨f, fun d hd hb => ?_, f2⟩
          have h1 := f1 d hd hb
          have h2 : f d ≠ k := by
            intro z
            have := tq d
            rw [cq, Nat.zero_testBit, hb] at this
            simp [hd, z] at this
          omega
        · apply (hr (k + 1)).2
          refine .inr ⟨q, by omega, qle, qs, ?_, ?_⟩
          · intro d hd hb
            rw [tq d] at hb
            simp only [Bool.and_eq_true, decide_eq_true_eq] at hb
            apply Nat.eq_of_testBit_eq
            intro e
            rw [Nat.testBit_and, Nat.zero_testBit, tq e]
            by_cases he : e < nd
            · cases hc : (V 9 d).testBit e
              · rfl
              · cases hbe : s.testBit e
                · simp
                · by_cases ce : f e = k
                  · exact absurd (hb.2.2.trans ce.symm) (f2 d e hd he hb.2.1 hbe hc)
                  · simp [ce]
            · simp [he]
          · have : F (s - q) ≤ k := by
              apply (hF (s - q) (by omega) k).2
              have tb : ∀ d, d < nd → (s - q).testBit d = (s.testBit d && !q.testBit d) := fun d hd => sm_3 s s64 q (by omega) qs d (by omega)
              refine ⟨f, fun d hd hb => ?_, fun d e hd he hbd hbe hc => ?_⟩
              · rw [tb d hd] at hb
                have hb1 : s.testBit d = true := by
                  cases z : s.testBit d
                  · rw [z] at hb; cases hb
                  · rfl
                have h1 := f1 d hd hb1
                have h2 : f d ≠ k := by
                  intro z
                  have t1 := tq d
                  rw [hb1] at t1
                  rw [hb1, t1] at hb
                  simp [hd, z] at hb
                omega
              · have g1 : s.testBit d = true := by
                  rw [tb d hd] at hbd
                  cases z : s.testBit d
                  · rw [z] at hbd; cases hbd
                  · rfl
                have g2 : s.testBit e = true := by
                  rw [tb e he] at hbe
                  cases z : s.testBit e
                  · rw [z] at hbe; cases hbe
                  · rfl
                exact f2 d e hd he g1 g2 hc
            omega
    intro hc
    exact (hr k).1 (key k hc)
theorem apL {w p q N : Nat} (h : GP v w p q nh nd st V N t t') : ∀ (k s f : Nat) (F : Nat → Nat) (T : tS), s + k = 2 ^ nd → 0 < s → YQ t T → (∀ x, x < s → T.2.1 181 x = nI (F x) ∧ F x ≤ 6 ∧ ∀ k, F x ≤ k ↔ Col V nd x k) → k < f → ∃ (F1 : Nat → Nat) (T1 : tS), tX9_apart_L19 f (nI (2 ^ nd)) (nI s) T = some T1 ∧ YQ t T1 ∧ ∀ x, x < 2 ^ nd → T1.2.1 181 x = nI (F1 x) ∧ ∀ k, F1 x ≤ k ↔ Col V nd x k := by
  have h6 := h.h6
  have p64 : 2 ^ nd ≤ 64 := by rw [show 64 = 2 ^ 6 from rfl]; exact Nat.pow_le_pow_right (by decide) h6
  intro k
  induction k with
  | zero =>
    intro s f F T hs h0 hy hF hf
    obtain ⟨f, rfl⟩ : ∃ g, f = g + 1 := ⟨f - 1, by omega⟩
    obtain rfl : s = 2 ^ nd := by omega
    rw [tX9_apart_L19, if_pos (Int32.le_refl _)]
    exact ⟨F, T, rfl, hy, fun x hx => ⟨(hF x hx).1, (hF x hx).2.2⟩⟩
  | succ k ih =>
    intro s f F T hs h0 hy hF hf
    obtain ⟨f, rfl⟩ : ∃ g, f = g + 1 := ⟨f - 1, by omega⟩
    have c1 : ¬ 2 ^ nd ≤ s := by omega
    obtain ⟨r, r1, r2, r3⟩ := fhL h (s := s) (F := F) (by omega) hy (fun x hx => ⟨(hF x hx).1, (hF x hx).2.1⟩) s s 4000 6 (Nat.le_refl _) (by omega) (Nat.and_self s) (Nat.le_refl _) (by omega)
    have r1' : tX9_fewestHouses_L5 4000 (nI s) 6 (nI s) T = some (nI r) := r1
    have rc := col_s h.2.2.2.1.1 (s := s) (r := r) (F := F) (by omega) h0 (fun x hx => (hF x hx).2.2) r3
    rw [tX9_apart_L19]
    unfold tX9_fewestHouses
    simp (disch := omega) only [tA_e, tA_l, tW0_e, tW0_l, nN_al, nN_la, nN_ad, nN_lm, nN_ml, nN_le, nN_lt, nN_eq, nN_lel, nN_lle, nN_ltl, nN_llt, nN_eql, nN_rm, nN_dv, ob_s, ob_2, ob_3, ite_true, ite_false, not_true_eq_false, not_false_eq_true, ite_self, eq_self, Nat.add_zero, c1, r1']
    refine ih (s + 1) f (fun x => if x = s then r else F x) (uA T 181 s (nI r)) (by omega) (by omega) (hy.w (by omega)) (fun x hx => ?_) (by omega)
    rw [uA_2]
    by_cases c : x = s
    · subst c
      rw [if_pos ⟨rfl, rfl⟩]
      simp only [if_true]
      exact ⟨trivial, r2, rc⟩
    · rw [if_neg (fun z => c z.2)]
      simp only [c, if_false]
      exact hF x (by omega)
/-- what is chosen so far can be gone on with -/
def Ext (V : Nat → Nat → Nat) (nd d n : Nat) (c : Nat → Nat) : Prop := ∃ f : Nat → Nat, (∀ o, o < d → f o = c o) ∧ (∀ e, d ≤ e → e < nd → f e < n) ∧ ∀ e, d ≤ e → e < nd → ∀ o, o < e → (V 9 e).testBit o = true → f o ≠ f e
theorem ext_s {d n : Nat} {c : Nat → Nat} (hd : d < nd) : Ext V nd d n c ↔ ∃ h, h < n ∧ (∀ o, o < d → c o = h → (V 9 d).testBit o = false) ∧ Ext V nd (d + 1) n (fun o => if o = d then h else c o) := by
  constructor
  · intro ⟨f, f1, f2, f3⟩
    refine ⟨f d, f2 d (Nat.le_refl _) hd, fun o ho hc => ?_, f, fun o ho => ?_, fun e he => f2 e (by omega), fun e he => f3 e (by omega)⟩
    · cases z : (V 9 d).testBit o
      · rfl
      · exact absurd ((f1 o ho).trans hc) (f3 d (Nat.le_refl _) hd o ho z)
    · show f o = if o = d then f d else c o
      by_cases c9 : o = d
      · rw [if_pos c9, c9]
      · rw [if_neg c9]
        exact f1 o (by omega)
  · intro ⟨h, h1, h2, f, f1, f2, f3⟩
    have fd : f d = h := by
      have := f1 d (by omega)
      simpa using this
    have fo : ∀ o, o < d → f o = c o := by
      intro o ho
      have : f o = if o = d then h else c o := f1 o (by omega)
      rw [if_neg (show ¬ o = d by omega)] at this
      exact this
    refine ⟨f, fo, fun e he hen => ?_, fun e he hen o ho hb => ?_⟩
    · by_cases c9 : e = d
      · rw [c9, fd]; exact h1
      · exact f2 e (by omega) hen
    · by_cases c9 : e = d
      · subst c9
        intro z
        rw [fd] at z
        have := h2 o ho ((fo o ho).symm.trans z)
        rw [this] at hb
        cases hb
      · exact f3 e (by omega) hen o ho hb
theorem ZQ.w {i : Nat} {x : Int32} {T : tS} (h : ZQ t' T) : ZQ t' (uA T 237 i x) := by
  refine h.tr ⟨fun _ _ _ => rfl, fun b j _ _ h3 _ => ?_, rfl, rfl⟩
  rw [uA_2, if_neg (by omega)]
theorem ia31 {rc : Nat → Int32 → Int32 → tS → Option (Int32 × tS)} {d g n : Nat} {c : Nat → Nat} {T : tS} (hm : MV nh nd st V T) (hV : VK nh nd st V) (hd : d < nd) (hg : g < 100) (hc : ∀ o, o < d → T.2.1 237 o = nI (c o) ∧ c o < 100) : ∀ (k i f : Nat) (b : Bool), i + k = d → k < f → ∃ b1 : Bool, tX10_isApart_L31 rc f (nI d) (nI n) (nI g) (bI b) (nI i) T = some (bI b1) ∧ (b1 = true ↔ b = true ∧ ∀ o, i ≤ o → o < d → c o = g → (V 9 d).testBit o = false) := by
  have h6 := hV.2.1
  intro k
  induction k with
  | zero =>
    intro i f b hi hf
    obtain ⟨f, rfl⟩ : ∃ g, f = g + 1 := ⟨f - 1, by omega⟩
    obtain rfl : i = d := by omega
    rw [tX10_isApart_L31, if_pos (Int32.le_refl _)]
    exact ⟨b, rfl, fun z => ⟨z, fun o _ _ => by omega⟩, fun z => z.1⟩
  | succ k ih =>
    intro i f b hi hf
    obtain ⟨f, rfl⟩ : ∃ g, f = g + 1 := ⟨f - 1, by omega⟩
    have c1 : ¬ d ≤ i := by omega
    obtain ⟨q1, q2⟩ := hc i (by omega)
    have v9 : tX10_dayOf (nI d) 4 T = some (nI (V 9 d)) := by
      unfold tX10_dayOf
      simp (disch := omega) only [tA_e, tA_l, tW0_e, tW0_l, nN_al, nN_la, nN_ad, nN_lm, nN_ml, nN_le, nN_lt, nN_eq, nN_lel, nN_lle, nN_ltl, nN_llt, nN_eql, nN_rm, nN_dv, ob_s, ob_2, ob_3, ite_true, ite_false, not_true_eq_false, not_false_eq_true, ite_self, eq_self, Nat.add_zero, hm.2.2.2.2.2.2.2.2.2 d hd]
    have l9 : V 9 d < 64 := by
      have h1 := (hV.2.2.2.2.2.1 d hd).2.2.2.2
      have := Nat.pow_le_pow_right (n := 2) (by decide) h6
      omega
    rw [tX10_isApart_L31]
    simp (disch := omega) only [tA_e, tA_l, tW0_e, tW0_l, nN_al, nN_la, nN_ad, nN_lm, nN_ml, nN_le, nN_lt, nN_eq, nN_lel, nN_lle, nN_ltl, nN_llt, nN_eql, nN_rm, nN_dv, ob_s, ob_2, ob_3, ite_true, ite_false, not_true_eq_false, not_false_eq_true, ite_self, eq_self, Nat.add_zero, c1, q1, v9, nN_bit, tb_0, bI_0]
    cases b
    · simp only [tA_e, tA_l, tW0_e, tW0_l, nN_al, nN_la, nN_ad, nN_lm, nN_ml, nN_le, nN_lt, nN_eq, nN_lel, nN_lle, nN_ltl, nN_llt, nN_eql, nN_rm, nN_dv, ob_s, ob_2, ob_3, ite_true, ite_false, not_true_eq_false, not_false_eq_true, ite_self, eq_self, Nat.add_zero]
      obtain ⟨b1, e1, e2⟩ := ih (i + 1) f false (by omega) (by omega)
      refine ⟨b1, e1, e2.trans ⟨fun z => absurd z.1 (by decide), fun z => absurd z.1 (by decide)⟩⟩
    · by_cases c2 : c i = g
      · cases hb : (V 9 d).testBit i
        · simp only [tA_e, tA_l, tW0_e, tW0_l, nN_al, nN_la, nN_ad, nN_lm, nN_ml, nN_le, nN_lt, nN_eq, nN_lel, nN_lle, nN_ltl, nN_llt, nN_eql, nN_rm, nN_dv, ob_s, ob_2, ob_3, ite_true, ite_false, not_true_eq_false, not_false_eq_true, ite_self, eq_self, Nat.add_zero, Bool.true_eq_false, eq_true c2]
          obtain ⟨b1, e1, e2⟩ := ih (i + 1) f true (by omega) (by omega)
          refine ⟨b1, e1, e2.trans ⟨fun z => ⟨trivial, fun o h1 h2 h3 => ?_⟩, fun z => ⟨rfl, fun o h1 h2 h3 => z.2 o (by omega) h2 h3⟩⟩⟩
          by_cases co : o = i
          · rw [co]; exact hb
          · exact z.2 o (by omega) h2 h3
        · simp only [tA_e, tA_l, tW0_e, tW0_l, nN_al, nN_la, nN_ad, nN_lm, nN_ml, nN_le, nN_lt, nN_eq, nN_lel, nN_lle, nN_ltl, nN_llt, nN_eql, nN_rm, nN_dv, ob_s, ob_2, ob_3, ite_true, ite_false, not_true_eq_false, not_false_eq_true, ite_self, eq_self, Nat.add_zero, Bool.true_eq_false, eq_true c2]
          obtain ⟨b1, e1, e2⟩ := ih (i + 1) f false (by omega) (by omega)
          refine ⟨b1, e1, e2.trans ⟨fun z => absurd z.1 (by decide), fun z => ?_⟩⟩
          have := z.2 i (Nat.le_refl _) (by omega) c2
          rw [hb] at this
          cases this
      · simp only [tA_e, tA_l, tW0_e, tW0_l, nN_al, nN_la, nN_ad, nN_lm, nN_ml, nN_le, nN_lt, nN_eq, nN_lel, nN_lle, nN_ltl, nN_llt, nN_eql, nN_rm, nN_dv, ob_s, ob_2, ob_3, ite_true, ite_false, not_true_eq_false, not_false_eq_true, ite_self, eq_self, Nat.add_zero, Bool.true_eq_false, c2]
        obtain ⟨b1, e1, e2⟩ := ih (i + 1) f true (by omega) (by omega)
        refine ⟨b1, e1, e2.trans ⟨fun z => ⟨trivial, fun o h1 h2 h3 => ?_⟩, fun z => ⟨rfl, fun o h1 h2 h3 => z.2 o (by omega) h2 h3⟩⟩⟩
        by_cases co : o = i
        · rw [co] at h3
          exact absurd h3 c2
        · exact z.2 o (by omega) h2 h3
theorem iaR {w p q N n : Nat} (h : GP v w p q nh nd st V N t t') (hn : n < 100) : ∀ (k d f : Nat) (c : Nat → Nat) (T : tS), d + k = nd → k < f → ZQ t' T → (∀ o, o < d → T.2.1 237 o = nI (c o) ∧ c o < 100) → ∃ (b : Bool) (T1 : tS), gtX10_isApart f 0 (nI d) (nI n) T = some (bI b, T1) ∧ (b = true ↔ Ext V nd d n c) ∧ ZQ t' T1 ∧ ∀ o, o < d → T1.2.1 237 o = T.2.1 237 o := by
  have h6 := h.h6
  have hV := h.2.2.2.1.1
  intro k
  induction k with
  | zero =>
    intro d f c T hd hf hz hc
    obtain ⟨f, rfl⟩ : ∃ g, f = g + 1 := ⟨f - 1, by omega⟩
    obtain rfl : d = nd := by omega
    have mv := (h.q YQ.rf hz).2.2.2.1.2.2.2.1
    rw [gtX10_isApart]
    simp (disch := omega) only [tA_e, tA_l, tW0_e, tW0_l, nN_al, nN_la, nN_ad, nN_lm, nN_ml, nN_le, nN_lt, nN_eq, nN_lel, nN_lle, nN_ltl, nN_llt, nN_eql, nN_rm, nN_dv, ob_s, ob_2, ob_3, ite_true, ite_false, not_true_eq_false, not_false_eq_true, ite_self, eq_self, Nat.add_zero, mv.days]
    refine ⟨true, T, rfl, ⟨fun _ => ⟨c, fun _ _ => rfl, fun e _ _ => by omega, fun e _ _ => by omega⟩, fun _ => rfl⟩, hz, fun _ _ => rfl⟩
  | succ k ih =>
    intro d f c T hd hf hz hc
    obtain ⟨f, rfl⟩ : ∃ g, f = g + 1 := ⟨f - 1, by omega⟩
    have hdn : d < nd := by omega
    have hne : ¬ d = nd := by omega
    have mv := (h.q YQ.rf hz).2.2.2.1.2.2.2.1
    have loop : ∀ (i g F : Nat) (b : Bool) (T : tS), g + i = n → i < F → ZQ t' T → (∀ o, o < d → T.2.1 237 o = nI (c o) ∧ c o < 100) → ∃ (b1 : Bool) (T1 : tS), tX10_isApart_L15 (gtX10_isApart f) F (nI d) (nI n) (bI b) (nI g) T = some (bI b1, T1) ∧ (b1 = true ↔ b = true ∨ ∃ x, g ≤ x ∧ x < n ∧ (∀ o, o < d → c o = x → (V 9 d).testBit o = false) ∧ Ext V nd (d + 1) n (fun o => if o = d then x else c o)) ∧ ZQ t' T1 ∧ ∀ o, o < d → T1.2.1 237 o = T.2.1 237 o := by
      intro i
      induction i with
      | zero =>
        intro g F b T hg hF hz hc
        obtain ⟨F, rfl⟩ : ∃ g, F = g + 1 := ⟨F - 1, by omega⟩
        obtain rfl : g = n := by omega
        rw [tX10_isApart_L15, if_pos (Int32.le_refl _)]
        refine ⟨b, T, rfl, ⟨.inl, fun z => ?_⟩, hz, fun _ _ => rfl⟩
        rcases z with z | ⟨x, z1, z2, _⟩
        · exact z
        · omega
      | succ i ihi =>
        intro g F b T hg hF hz hc
        obtain ⟨F, rfl⟩ : ∃ g, F = g + 1 := ⟨F - 1, by omega⟩
        have c1 : ¬ n ≤ g := by omega
        have mv := (h.q YQ.rf hz).2.2.2.1.2.2.2.1
        rw [tX10_isApart_L15]
        simp (disch := omega) only [nN_le, c1, ite_false, bI_0]
        cases b
        · obtain ⟨b1, e1, e2⟩ := ia31 (rc := gtX10_isApart f) (n := n) (g := g) mv hV hdn (by omega) hc d 0 4000 true (by omega) (by omega)
          have e1' : tX10_isApart_L31 (gtX10_isApart f) 4000 (nI d) (nI n) (nI g) 1 0 T = some (bI b1) := e1
          have hz2 : ZQ t' (uA T 237 d (nI g)) := hz.w
          have hc2 : ∀ o, o < d → (uA T 237 d (nI g)).2.1 237 o = nI (c o) ∧ c o < 100 := by
            intro o ho
            rw [uA_2, if_neg (by omega)]
            exact hc o ho
          have go : ∀ (b9 : Bool) (T2 : tS), ZQ t' T2 → (∀ o, o < d → T2.2.1 237 o = T.2.1 237 o) → (b9 = true ↔ ((∀ o, o < d → c o = g → (V 9 d).testBit o = false) ∧ Ext V nd (d + 1) n (fun o => if o = d then g else c o))) → ∃ (b1 : Bool) (T1 : tS), tX10_isApart_L15 (gtX10_isApart f) F (nI d) (nI n) (bI b9) (nI (g + 1)) T2 = some (bI b1, T1) ∧ (b1 = true ↔ false = true ∨ ∃ x, g ≤ x ∧ x < n ∧ (∀ o, o < d → c o = x → (V 9 d).testBit o = false) ∧ Ext V nd (d + 1) n (fun o => if o = d then x else c o)) ∧ ZQ t' T1 ∧ ∀ o, o < d → T1.2.1 237 o = T.2.1 237 o := by
            intro b9 T2 hzz ho hb9
            obtain ⟨b2, T3, g1, g2, g3, g4⟩ := ihi (g + 1) F b9 T2 (by omega) (by omega) hzz (fun o h1 => by rw [ho o h1]; exact hc o h1)
            refine ⟨b2, T3, g1, g2.trans ⟨fun z => ?_, fun z => ?_⟩, g3, fun o h1 => (g4 o h1).trans (ho o h1)⟩
            · rcases z with z | ⟨x, z1, z2, z3⟩
              · exact .inr ⟨g, Nat.le_refl _, by omega, hb9.1 z⟩
              · exact .inr ⟨x, by omega, z2, z3⟩
            · rcases z with z | ⟨x, z1, z2, z3⟩
              · cases z
              · by_cases cx : x = g
                · subst cx
                  exact .inl (hb9.2 z3)
                · exact .inr ⟨x, by omega, z2, z3⟩
          have z9 : ¬ (1 : Int32) = 0 := by decide
          simp (disch := omega) only [tA_e, tA_l, tW0_e, tW0_l, nN_al, nN_la, nN_ad, nN_lm, nN_ml, nN_le, nN_lt, nN_eq, nN_lel, nN_lle, nN_ltl, nN_llt, nN_eql, nN_rm, nN_dv, ob_s, ob_2, ob_3, ite_true, ite_false, not_true_eq_false, not_false_eq_true, ite_self, eq_self, Nat.add_zero, e1', bI_0]
          cases hb1 : b1
          · simp only [tA_e, tA_l, tW0_e, tW0_l, nN_al, nN_la, nN_ad, nN_lm, nN_ml, nN_le, nN_lt, nN_eq, nN_lel, nN_lle, nN_ltl, nN_llt, nN_eql, nN_rm, nN_dv, ob_s, ob_2, ob_3, ite_true, ite_false, not_true_eq_false, not_false_eq_true, ite_self, eq_self, Nat.add_zero]
            refine go false _ hz2 (fun o ho => by rw [uA_2, if_neg (by omega)]) ⟨fun z => absurd z (by decide), fun z => ?_⟩
            have := e2.2 ⟨rfl, fun o _ h2 h3 => z.1 o h2 h3⟩
            rw [hb1] at this
            exact this
          · obtain ⟨b3, T3, k1, k2, k3, k4⟩ := ih (d + 1) f (fun o => if o = d then g else c o) (uA T 237 d (nI g)) (by omega) (by omega) hz2 (fun o ho => by
              rw [uA_2]
              by_cases co : o = d
              · rw [if_pos ⟨rfl, co⟩]
                simp only [co, if_true]
                exact ⟨trivial, by omega⟩
              · rw [if_neg (fun z => co z.2)]
                simp only [co, if_false]
                exact hc o (by omega))
            simp only [tA_e, tA_l, tW0_e, tW0_l, nN_al, nN_la, nN_ad, nN_lm, nN_ml, nN_le, nN_lt, nN_eq, nN_lel, nN_lle, nN_ltl, nN_llt, nN_eql, nN_rm, nN_dv, ob_s, ob_2, ob_3, ite_true, ite_false, not_true_eq_false, not_false_eq_true, ite_self, eq_self, Nat.add_zero, Bool.true_eq_false, k1, bI_0]
            have hmay : ∀ o, o < d → c o = g → (V 9 d).testBit o = false := fun o h1 h2 => (e2.1 hb1).2 o (by omega) h1 h2
            have fr : ∀ o, o < d → T3.2.1 237 o = T.2.1 237 o := by
              intro o ho
              rw [k4 o (by omega), uA_2, if_neg (by omega)]
            cases hb3 : b3
            · simp only [tA_e, tA_l, tW0_e, tW0_l, nN_al, nN_la, nN_ad, nN_lm, nN_ml, nN_le, nN_lt, nN_eq, nN_lel, nN_lle, nN_ltl, nN_llt, nN_eql, nN_rm, nN_dv, ob_s, ob_2, ob_3, ite_true, ite_false, not_true_eq_false, not_false_eq_true, ite_self, eq_self, Nat.add_zero]
              refine go false T3 k3 fr ⟨fun z => absurd z (by decide), fun z => ?_⟩
              have := k2.2 z.2
              rw [hb3] at this
              exact this
            · simp only [tA_e, tA_l, tW0_e, tW0_l, nN_al, nN_la, nN_ad, nN_lm, nN_ml, nN_le, nN_lt, nN_eq, nN_lel, nN_lle, nN_ltl, nN_llt, nN_eql, nN_rm, nN_dv, ob_s, ob_2, ob_3, ite_true, ite_false, not_true_eq_false, not_false_eq_true, ite_self, eq_self, Nat.add_zero, Bool.true_eq_false]
              exact go true T3 k3 fr ⟨fun _ => ⟨hmay, k2.1 hb3⟩, fun _ => rfl⟩
        · simp only [Bool.true_eq_false, not_false_eq_true, ite_true]
          exact ⟨true, T, rfl, ⟨fun _ => .inl trivial, fun _ => rfl⟩, hz, fun _ _ => rfl⟩
    obtain ⟨b1, T1, e1, e2, e3, e4⟩ := loop n 0 4000 false T (by omega) (by omega) hz hc
    have e1' : tX10_isApart_L15 (gtX10_isApart f) 4000 (nI d) (nI n) 0 0 T = some (bI b1, T1) := e1
    rw [gtX10_isApart]
    simp (disch := omega) only [tA_e, tA_l, tW0_e, tW0_l, nN_al, nN_la, nN_ad, nN_lm, nN_ml, nN_le, nN_lt, nN_eq, nN_lel, nN_lle, nN_ltl, nN_llt, nN_eql, nN_rm, nN_dv, ob_s, ob_2, ob_3, ite_true, ite_false, not_true_eq_false, not_false_eq_true, ite_self, eq_self, Nat.add_zero, mv.days, hne, e1', bI_z]
    refine ⟨b1, T1, rfl, ?_, e3, e4⟩
    rw [ext_s hdn, e2]
    constructor
    · intro z
      rcases z with z | ⟨x, _, z2, z3⟩
      · cases z
      · exact ⟨x, z2, z3⟩
    · intro ⟨x, z2, z3⟩
      exact .inr ⟨x, by omega, z2, z3⟩
theorem ext_col (hV : VK nh nd st V) {n : Nat} {c : Nat → Nat} : Ext V nd 0 n c ↔ Col V nd (2 ^ nd - 1) n := by
  have tb : ∀ d, d < nd → (2 ^ nd - 1).testBit d = true := by
    intro d hd
    rw [Nat.testBit_two_pow_sub_one]
    exact decide_eq_true hd
  constructor
  · intro ⟨f, _, f2, f3⟩
    refine ⟨f, fun d hd _ => f2 d (by omega) hd, fun d e hd he _ _ hc => ?_⟩
    by_cases c1 : d = e
    · subst c1
      rw [hV.2.2.2.2.2.2.2 d hd] at hc
      cases hc
    · by_cases c2 : e < d
      · exact fun z => f3 d (by omega) hd e c2 hc z.symm
      · rw [hV.2.2.2.2.2.2.1 d e hd he] at hc
        exact f3 e (by omega) he d (by omega) hc
  · intro ⟨f, f1, f2⟩
    refine ⟨f, fun o ho => by omega, fun e _ he => f1 e he (tb e he), fun e _ he o ho hc => ?_⟩
    exact fun z => f2 e o he (by omega) (tb e he) (tb o (by omega)) hc z.symm
theorem amL {w p q N r : Nat} (h : GP v w p q nh nd st V N t t') (hr : ∀ k, r ≤ k ↔ Col V nd (2 ^ nd - 1) k) (hr6 : r ≤ 6) : ∀ (k n f : Nat) (T : tS), n + k = r → k < f → ZQ t' T → ∃ T1, tX10_apart_L7 f (nI n) T = some (nI r, T1) ∧ ZQ t' T1 := by
  have hV := h.2.2.2.1.1
  have h6 := h.h6
  intro k
  induction k with
  | zero =>
    intro n f T hn hf hz
    obtain ⟨f, rfl⟩ : ∃ g, f = g + 1 := ⟨f - 1, by omega⟩
    obtain rfl : n = r := by omega
    obtain ⟨b, T1, e1, e2, e3, _⟩ := iaR (n := n) h (by omega) nd 0 60 (fun _ => 0) T (by omega) (by omega) hz (fun o ho => by omega)
    have e1' : gtX10_isApart 60 0 0 (nI n) T = some (bI b, T1) := e1
    rw [tX10_apart_L7]
    unfold tX10_isApart
    simp only [e1', ob_2, bI_0]
    have hb : b = true := e2.2 ((ext_col hV).2 ((hr n).1 (Nat.le_refl _)))
    rw [hb]
    simp only [Bool.true_eq_false, not_false_eq_true, ite_true]
    exact ⟨T1, rfl, e3⟩
  | succ k ih =>
    intro n f T hn hf hz
    obtain ⟨f, rfl⟩ : ∃ g, f = g + 1 := ⟨f - 1, by omega⟩
    obtain ⟨b, T1, e1, e2, e3, _⟩ := iaR (n := n) h (by omega) nd 0 60 (fun _ => 0) T (by omega) (by omega) hz (fun o ho => by omega)
    have e1' : gtX10_isApart 60 0 0 (nI n) T = some (bI b, T1) := e1
    rw [tX10_apart_L7]
    unfold tX10_isApart
    simp only [e1', ob_2, bI_0]
    have hb : b = false := by
      cases z : b
      · rfl
      · have := (hr n).2 ((ext_col hV).1 (e2.1 z))
        omega
    rw [hb]
    simp only [not_true_eq_false, ite_false, nN_al]
    exact ih (n + 1) f T1 (by omega) (by omega) e3
theorem q_apart {w p q N : Nat} (h : GP v w p q nh nd st V N t t') : QA (tX9_apart t) (tX10_apart t') t t' := by
  have hV := h.2.2.2.1.1
  have h6 := h.h6
  have p64 : 2 ^ nd ≤ 64 := by rw [show 64 = 2 ^ 6 from rfl]; exact Nat.pow_le_pow_right (by decide) h6
  have p1 := Nat.two_pow_pos nd
  have c0 : ∀ k, Col V nd 0 k := fun k => ⟨fun _ => 0, fun d _ hb => absurd hb (by rw [Nat.zero_testBit]; decide), fun d e _ _ hb => absurd hb (by rw [Nat.zero_testBit]; decide)⟩
  have cd := h.2.2.2.1.2.2.1.2.1
  have hy0 : YQ t (uA t 181 0 0) := YQ.rf.w (by omega)
  obtain ⟨F, T, a1, a2, a3⟩ := apL h (2 ^ nd - 1) 1 4000 (fun _ => 0) (uA t 181 0 0) (by omega) (by omega) hy0 (fun x hx => by
    obtain rfl : x = 0 := by omega
    rw [uA_2, if_pos ⟨rfl, rfl⟩]
    exact ⟨rfl, by omega, fun k => ⟨fun _ => c0 k, fun _ => by omega⟩⟩) (by omega)
  obtain ⟨b1, b2⟩ := a3 (2 ^ nd - 1) (by omega)
  have r6 : F (2 ^ nd - 1) ≤ 6 := by
    apply (b2 6).2
    refine ⟨fun d => d, fun d hd _ => (by show d < _; omega), fun d e hd he _ _ hc hde => ?_⟩
    have : d = e := hde
    subst this
    rw [hV.2.2.2.2.2.2.2 d hd] at hc
    cases hc
  obtain ⟨T', d1, d2⟩ := amL h b2 r6 (F (2 ^ nd - 1)) 0 4000 (uI t' 218 0 0) (by omega) (by omega) (ZQ.th (.inl rfl))
  have a1' : tX9_apart_L19 4000 (nI (2 ^ nd)) 1 (uA t 181 0 0) = some T := a1
  have d1' : tX10_apart_L7 4000 0 (uI t' 218 0 0) = some (nI (F (2 ^ nd - 1)), T') := d1
  have w0 : tWA t 0 181 64 0 0 = some (uA t 181 0 0) := tW0_e (k := 0) (by omega) (by omega)
  have e1 : nI (2 ^ nd) - (1 : Int32) = nI (2 ^ nd - 1) := by
    rw [show (1 : Int32) = nI 1 from rfl, nN_su (by omega)]
  unfold tX9_apart tX10_apart
  simp (disch := omega) only [ob_s, w0, h.2.2.1.1, cd, nN_shl, a1', e1, tA_e, b1, d1', ob_2]
  exact ⟨_, _, _, rfl, rfl, a2, d2⟩
end
