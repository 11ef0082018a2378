/-! ===== PURE: a date goes by ===== -/
section
variable {v nh nd st a b n m : Nat} {V : Nat → Nat → Nat} {S : Nat → Nat → Int32} {t0 t0' t t' : tS}
theorem up2_o {α : Type} {f : Nat → Nat → α} {k k' d e : Nat} {x : α} (h : k' ≠ k) : up2 f k d x k' e = f k' e := by
  unfold up2
  rw [if_neg (fun z => h z.1)]
theorem up2_s {α : Type} {f : Nat → Nat → α} {k d : Nat} {x : α} : up2 f k d x k d = x := by
  unfold up2
  rw [if_pos ⟨rfl, rfl⟩]
theorem up2_d {α : Type} {f : Nat → Nat → α} {k d e : Nat} {x : α} (h : e ≠ d) : up2 f k d x k e = f k e := by
  unfold up2
  rw [if_neg (fun z => h z.2)]
theorem SK.w3 (h : SK nh nd st S) {d : Nat} {x : Int32} (hx : NN x 100) : SK nh nd st (up2 S 3 d x) := by
  intro e he
  obtain ⟨h2, h3, h4, h5⟩ := h e he
  rw [up2_o (k := 3) (k' := 2) (by decide), up2_o (k := 3) (k' := 4) (by decide), up2_o (k := 3) (k' := 5) (by decide)]
  refine ⟨h2, ?_, h4, h5⟩
  by_cases c : e = d
  · rw [c, up2_s]; exact hx
  · rw [up2_d c]; exact h3
theorem SK.w4 (h : SK nh nd st S) {d : Nat} {x : Int32} (hx : x = -1 ∨ NN x nh) : SK nh nd st (up2 S 4 d x) := by
  intro e he
  obtain ⟨h2, h3, h4, h5⟩ := h e he
  rw [up2_o (by decide), up2_o (by decide), up2_o (k := 4) (k' := 5) (by decide)]
  refine ⟨h2, h3, ?_, h5⟩
  by_cases c : e = d
  · rw [c, up2_s]; exact hx
  · rw [up2_d c]; exact h4
theorem SK.w5 (h : SK nh nd st S) {d : Nat} {x : Int32} (hx : NN x st) : SK nh nd st (up2 S 5 d x) := by
  intro e he
  obtain ⟨h2, h3, h4, h5⟩ := h e he
  rw [up2_o (by decide), up2_o (by decide), up2_o (by decide)]
  refine ⟨h2, h3, h4, ?_⟩
  by_cases c : e = d
  · rw [c, up2_s]; exact hx
  · rw [up2_d c]; exact h5
theorem SK.w6 (h : SK nh nd st S) {d k : Nat} {x : Int32} (hk : k = 6 ∨ k = 1) : SK nh nd st (up2 S k d x) := by
  intro e he
  rw [up2_o (by omega), up2_o (by omega), up2_o (by omega), up2_o (by omega)]
  exact h e he
theorem up2_55 {α : Type} {f : Nat → Nat → α} {d : Nat} {x y z : α} : up2 (up2 (up2 f 5 d x) 4 d y) 5 d z = up2 (up2 f 4 d y) 5 d z := by
  funext k e
  unfold up2
  by_cases c : k = 5 ∧ e = d
  · rw [if_pos c, if_pos c]
  · rw [if_neg c, if_neg c, if_neg c]
theorem SK.lv5 (h : SK nh nd st S) (hs : 1 ≤ st) {d : Nat} {x : Int32} : SK nh nd st (lv (up2 S 5 d x) d) := by
  unfold lv
  rw [up2_55]
  exact (h.w4 (.inl rfl)).w5 ⟨0, hs, rfl⟩
theorem SK.lv (h : SK nh nd st S) (hs : 1 ≤ st) {d : Nat} : SK nh nd st (lv S d) := (h.w4 (.inl rfl)).w5 ⟨0, hs, rfl⟩
/-- beds and dates of the days stay -/
def NX (S S1 : Nat → Nat → Int32) : Prop := (∀ j, S1 1 j = S 1 j) ∧ ∀ j, S1 2 j = S 2 j
theorem NX.rf : NX S S := ⟨fun _ => rfl, fun _ => rfl⟩
theorem NX.tr {S1 S2 : Nat → Nat → Int32} (h : NX S S1) (g : NX S1 S2) : NX S S2 := ⟨fun j => (g.1 j).trans (h.1 j), fun j => (g.2 j).trans (h.2 j)⟩
theorem NX.w {S1 : Nat → Nat → Int32} (h : NX S S1) {k d : Nat} {x : Int32} (hk : 3 ≤ k) : NX S (up2 S1 k d x) := ⟨fun j => (up2_o (by omega)).trans (h.1 j), fun j => (up2_o (by omega)).trans (h.2 j)⟩
theorem NX.lv {S1 : Nat → Nat → Int32} (h : NX S S1) {d : Nat} : NX S (lv S1 d) := (h.w (by decide)).w (by decide)
theorem PR.s1 (h : PR v nh nd st V a b n m S t0 t0' t t') : 1 ≤ st ∧ st ≤ 4 := ⟨h.1.2.2.1, h.1.2.2.2.1⟩
set_option maxHeartbeats 4000000 in
theorem PR.stL : ∀ (k i f f' : Nat) (S : Nat → Nat → Int32) (t t' : tS), PR v nh nd st V a b n m S t0 t0' t t' → SK nh nd st S → i + k = nd → k < f → k < f' → ∃ S1 t1 t1', tX6_passDate_L36 f a v (nI i) t = some t1 ∧ tX10_passes_L24 f' (nI b) (nI i) t' = some t1' ∧ PR v nh nd st V a b n m S1 t0 t0' t1 t1' ∧ SK nh nd st S1 ∧ NX S S1 ∧ t1.1 = t.1 ∧ t1'.1 = t'.1 := by
  intro k
  induction k with
  | zero =>
    intro i f f' S t t' h hs hi hf hf'
    have h6 := h.h6
    obtain ⟨f, rfl⟩ : ∃ g, f = g + 1 := ⟨f - 1, by omega⟩
    obtain ⟨f', rfl⟩ : ∃ g, f' = g + 1 := ⟨f' - 1, by omega⟩
    obtain rfl : i = nd := by omega
    rw [tX6_passDate_L36, tX10_passes_L24]
    simp (disch := omega) only [tA_e, tA_l, tW0_e, tW0_l, nN_al, nN_la, nN_ad, nN_lm, nN_ml, nN_le, nN_lt, nN_eq, nN_lel, nN_lle, nN_ltl, nN_llt, nN_eql, nN_rm, nN_dv, ob_s, ob_2, ob_3, ite_true, ite_false, not_true_eq_false, not_false_eq_true, ite_self, eq_self, Nat.add_zero, h.cd, h.days, Nat.le_refl]
    exact ⟨_, _, _, rfl, rfl, h, hs, NX.rf, rfl, rfl⟩
  | succ k ih =>
    intro i f f' S t t' h hs hi hf hf'
    have h6 := h.h6
    have h4 := h.h4
    have hb := h.b1
    have hst := h.s1
    obtain ⟨f, rfl⟩ : ∃ g, f = g + 1 := ⟨f - 1, by omega⟩
    obtain ⟨f', rfl⟩ : ∃ g, f' = g + 1 := ⟨f' - 1, by omega⟩
    have c1 : ¬ nd ≤ i := by omega
    have hd : i < nd := by omega
    obtain ⟨g2, g3, g4, be, g5, g6⟩ := hs i hd
    have gm := NN.m1 (by omega) g4
    have h1 := h.w5 (x := nI (be + 1)) hd
    rw [tX6_passDate_L36, tX10_passes_L24]
    unfold tX6_stayLonger
    simp (disch := omega) only [tA_e, tA_l, tW0_e, tW0_l, nN_al, nN_la, nN_ad, nN_lm, nN_ml, nN_le, nN_lt, nN_eq, nN_lel, nN_lle, nN_ltl, nN_llt, nN_eql, nN_rm, nN_dv, ob_s, ob_2, ob_3, ite_true, ite_false, not_true_eq_false, not_false_eq_true, ite_self, eq_self, Nat.add_zero, h.cd, h.days, c1, h.c4, h.m4, h.c5, h.m5, g6, gm.1, h1.c5, h1.m5, h1.cst, h1.mst, up2_s]
    by_cases c2 : S 4 i = -1
    · simp only [tA_e, tA_l, tW0_e, tW0_l, nN_al, nN_la, nN_ad, nN_lm, nN_ml, nN_le, nN_lt, nN_eq, nN_lel, nN_lle, nN_ltl, nN_llt, nN_eql, nN_rm, nN_dv, ob_s, ob_2, ob_3, ite_true, ite_false, not_true_eq_false, not_false_eq_true, ite_self, eq_self, Nat.add_zero, eq_true c2]
      exact ih (i + 1) f f' S t t' h hs (by omega) (by omega) (by omega)
    · by_cases c3 : be + 1 < st
      · have c4 : ¬ be + 1 = st := by omega
        simp only [tA_e, tA_l, tW0_e, tW0_l, nN_al, nN_la, nN_ad, nN_lm, nN_ml, nN_le, nN_lt, nN_eq, nN_lel, nN_lle, nN_ltl, nN_llt, nN_eql, nN_rm, nN_dv, ob_s, ob_2, ob_3, ite_true, ite_false, not_true_eq_false, not_false_eq_true, ite_self, eq_self, Nat.add_zero, c2, eq_true c3, c4]
        obtain ⟨S1, t1, t1', e1, e2, e3, e4, e5, e6, e7⟩ := ih (i + 1) f f' _ _ _ h1 (hs.w5 ⟨be + 1, c3, rfl⟩) (by omega) (by omega) (by omega)
        exact ⟨S1, t1, t1', e1, e2, e3, e4, (NX.rf.w (by decide)).tr e5, e6, e7⟩
      · have c4 : be + 1 = st := by omega
        obtain ⟨l1, l2, l3⟩ := h1.leave hd
        simp only [tA_e, tA_l, tW0_e, tW0_l, nN_al, nN_la, nN_ad, nN_lm, nN_ml, nN_le, nN_lt, nN_eq, nN_lel, nN_lle, nN_ltl, nN_llt, nN_eql, nN_rm, nN_dv, ob_s, ob_2, ob_3, ite_true, ite_false, not_true_eq_false, not_false_eq_true, ite_self, eq_self, Nat.add_zero, c2, c3, eq_true c4, l1, l2]
        obtain ⟨S1, t1, t1', e1, e2, e3, e4, e5, e6, e7⟩ := ih (i + 1) f f' _ _ _ l3 (hs.lv5 hst.1) (by omega) (by omega) (by omega)
        exact ⟨S1, t1, t1', e1, e2, e3, e4, ((NX.rf.w (by decide)).lv).tr e5, e6, e7⟩
/-- who came and who was turned off -/
def CO (a c o : Nat) (t t' : tS) : Prop := t.1 a 9 = nI c ∧ t.1 a 10 = nI o ∧ t'.1 218 28 = nI c ∧ t'.1 218 29 = nI o
theorem CS.wT {t : tS} {x : Int32} (h : CS nh nd a n m S t) : CS nh nd a n (m + 1) S (uI t a 8 (nI (m + 1))) := by
  obtain ⟨h1, h2, h3, h4⟩ := h
  refine ⟨?_, ?_, ?_, h4⟩
  · rw [uI_1, if_neg (by omega)]; exact h1
  · rw [uI_1, if_neg (by omega)]; exact h2
  · rw [uI_1, if_pos ⟨rfl, rfl⟩]
theorem MS.wT {t : tS} (h : MS nh nd b n m S t) (h4 : nh ≤ 4) (h6 : nd ≤ 6) : MS nh nd b n (m + 1) S (uA t 234 (b + 1) (nI (m + 1))) := by
  obtain ⟨g1, g2, g3, g4, g5, g6, g7, g8⟩ := h
  refine ⟨?_, ?_, ?_, ?_, ?_, ?_, ?_, ?_⟩
  · rw [uA_2, if_neg (by omega)]; exact g1
  · rw [uA_2, if_pos ⟨rfl, rfl⟩]
  all_goals intro e he; rw [uA_2, if_neg (by omega)]
  · exact g3 e he
  · exact g4 e he
  · exact g5 e he
  · exact g6 e he
  · exact g7 e he
  · exact g8 e he
theorem PR.wT (h : PR v nh nd st V a b n m S t0 t0' t t') : PR v nh nd st V a b n (m + 1) S t0 t0' (uI t a 8 (nI (m + 1))) (uA t' 234 (b + 1) (nI (m + 1))) := h.go CF.wI (MF.wA (by omega) (by omega)) (CS.wT (x := 0) h.2.2.2.2.2.1) (MS.wT h.2.2.2.2.2.2.1 h.h4 h.h6)
theorem PR.g64 (h : PR v nh nd st V a b n m S t0 t0' t t') (x : Int32) : gs (S 4) x nd < 64 := Nat.lt_of_lt_of_le (gs_lt _ _ _) (by rw [show 64 = 2 ^ 6 from rfl]; exact Nat.pow_le_pow_right (by decide) h.h6)
set_option maxHeartbeats 8000000 in
theorem PR.come (h : PR v nh nd st V a b n m S t0 t0' t t') (hs : SK nh nd st S) (hn : n < 1000000) {d c o : Nat} (hd : d < nd) (hco : CO a c o t t') (hc : c < 2 ^ d) (ho : o < 2 ^ d) : ∃ r S1 c1 o1 m1 t1 t1', tX6_hostOf a v (nI d) t = some r ∧ tX6_receive a v (nI d) r t = some t1 ∧ tX10_comes (nI b) (nI d) t' = some t1' ∧ PR v nh nd st V a b n m1 S1 t0 t0' t1 t1' ∧ SK nh nd st S1 ∧ NX S S1 ∧ CO a c1 o1 t1 t1' ∧ c1 < 2 ^ (d + 1) ∧ o1 < 2 ^ (d + 1) ∧ m1 + pc o = m + pc o1 := by
  have h6 := h.h6
  have h4 := h.h4
  have hb := h.b1
  have hst := h.s1
  have hp : 2 ^ (d + 1) = 2 ^ d + 2 ^ d := by rw [Nat.pow_succ]; omega
  obtain ⟨k1, k2, k3, k4⟩ := hco
  obtain ⟨r, e1, e2, hr⟩ := h.hostOf hd
  have hm1 := NN.m1 (by omega) hr
  unfold tX10_comes
  simp only [e2, ob_s]
  refine ⟨r, ?_⟩
  rw [e1]
  unfold tX6_receive
  rcases hr with rfl | ⟨j, hj, rfl⟩
  · have z4 : ¬ (0 : Int32) ≤ -1 := by decide
    have z0 := z4
    have w1 := (h.cI (k := 10) (x := nI (o ||| 2 ^ d)) (.inr rfl)).mI (k := 29) (x := nI (o ||| 2 ^ d)) (.inr rfl)
    have w2 := w1.wT
    have w3 : ((uI t a 10 (nI (o ||| 2 ^ d))).1 a 8) = nI m := w1.co
    simp (disch := omega) only [tA_e, tA_l, tW0_e, tW0_l, nN_al, nN_la, nN_ad, nN_lm, nN_ml, nN_le, nN_lt, nN_eq, nN_lel, nN_lle, nN_ltl, nN_llt, nN_eql, nN_rm, nN_dv, ob_s, ob_2, ob_3, ite_true, ite_false, not_true_eq_false, not_false_eq_true, ite_self, eq_self, Nat.add_zero, z0, k2, k4, nN_shl, nN_or, w1.mo, w3]
    refine ⟨S, c, o + 2 ^ d, m + 1, _, _, trivial, rfl, rfl, w2, hs, NX.rf, ⟨?_, ?_, ?_, ?_⟩, by omega, by omega, ?_⟩
    · rw [uI_1, if_neg (by omega), uI_1, if_neg (by omega)]; exact k1
    · rw [uI_1, if_neg (by omega), uI_1, if_pos ⟨rfl, rfl⟩, or_pw ho]
    · rw [uA_1, uI_1, if_neg (by omega)]; exact k3
    · rw [uA_1, uI_1, if_pos ⟨rfl, rfl⟩, or_pw ho]
    · rw [pc_add (by omega) ho]
      omega
  · have z0 : (0 : Int32) ≤ nI j := hm1.2.2 (nN_ne1 (by omega))
    have z1 : ¬ nI j = (-1 : Int32) := nN_ne1 (by omega)
    have z4 : ¬ (0 : Int32) ≤ -1 := by decide
    have w1 := (h.mI (k := 28) (x := nI (c ||| 2 ^ d)) (.inl rfl)).w4 (x := nI j) hd
    have w2 := w1.w5 (x := 0) hd
    have w3 := w2.w6 (x := S 6 d + 1) hd
    have w4 := w3.cI (k := 9) (x := nI (c ||| 2 ^ d)) (.inl rfl)
    have g64 := w4.g64 (nI j)
    have w5 := w4.mP (c := 232) (i := 0) (x := S 3 d) (.inl rfl)
    have w6 := w5.mP (c := 232) (i := 1) (x := nI (pc (gs (up2 (up2 (up2 S 4 d (nI j)) 5 d 0) 6 d (S 6 d + 1) 4) (nI j) nd))) (.inl rfl)
    have w7 := w6.mP (c := 232) (i := 2) (x := nI (n % 12)) (.inl rfl)
    have w8 := w7.mP (c := 232) (i := 3) (x := S 6 d + 1) (.inl rfl)
    have z3 : ∀ s : tS, tX6_guests a v (nI j) s = tX6_guests a v (nI j) s := fun _ => rfl
    simp (disch := omega) only [tA_e, tA_l, tW0_e, tW0_l, nN_al, nN_la, nN_ad, nN_lm, nN_ml, nN_le, nN_lt, nN_eq, nN_lel, nN_lle, nN_ltl, nN_llt, nN_eql, nN_rm, nN_dv, ob_s, ob_2, ob_3, ite_true, ite_false, not_true_eq_false, not_false_eq_true, ite_self, eq_self, Nat.add_zero, z0, z1, w2.c6, w2.m6, up2_o, up2_s, k1, k3, uA_1, nN_shl, nN_or, w4.guests, bc_e g64, w3.m3, w5.inHouse, bits_e g64, w6.mn, w7.m6, w4.c3, w4.c6, w4.cn]
    have hF : ∀ k, k < 4 → (uA (uA (uA (uA (uA (uA (uA (uI t' 218 28 (nI (c ||| 2 ^ d))) 234 (b + 6 + d) (nI j)) 234 (b + 12 + d) 0) 234 (b + 24 + d) (S 6 d + 1)) 232 0 (S 3 d)) 232 1 (nI (pc (gs (up2 (up2 (up2 S 4 d (nI j)) 5 d 0) 6 d (S 6 d + 1) 4) (nI j) nd)))) 232 2 (nI (n % 12))) 232 3 (S 6 d + 1)).2.1 232 k = (fun k => if k = 0 then S 3 d else if k = 1 then nI (pc (gs (up2 (up2 (up2 S 4 d (nI j)) 5 d 0) 6 d (S 6 d + 1) 4) (nI j) nd)) else if k = 2 then nI (n % 12) else S 6 d + 1) k := by
      intro k hk
      obtain rfl | rfl | rfl | rfl : k = 0 ∨ k = 1 ∨ k = 2 ∨ k = 3 := by omega
      · rw [uA_2, if_neg (by omega), uA_2, if_neg (by omega), uA_2, if_neg (by omega), uA_2, if_pos ⟨rfl, rfl⟩]
        rfl
      · rw [uA_2, if_neg (by omega), uA_2, if_neg (by omega), uA_2, if_pos ⟨rfl, rfl⟩]
        rfl
      · rw [uA_2, if_neg (by omega), uA_2, if_pos ⟨rfl, rfl⟩]
        rfl
      · rw [uA_2, if_pos ⟨rfl, rfl⟩]
        rfl
    have f1 : (uI (uA (uA (uA t (a + 4) d (nI j)) (a + 5) d 0) (a + 6) d (S 6 d + 1)) a 9 (nI (c ||| 2 ^ d))).1 a 9 = nI (c + 2 ^ d) := by
      rw [uI_1, if_pos ⟨rfl, rfl⟩, or_pw hc]
    have f2 : (uI (uA (uA (uA t (a + 4) d (nI j)) (a + 5) d 0) (a + 6) d (S 6 d + 1)) a 9 (nI (c ||| 2 ^ d))).1 a 10 = nI o := by
      rw [uI_1, if_neg (by omega)]
      exact k2
    have f3 : (uA (uA (uA (uA (uA (uA (uA (uI t' 218 28 (nI (c ||| 2 ^ d))) 234 (b + 6 + d) (nI j)) 234 (b + 12 + d) 0) 234 (b + 24 + d) (S 6 d + 1)) 232 0 (S 3 d)) 232 1 (nI (pc (gs (up2 (up2 (up2 S 4 d (nI j)) 5 d 0) 6 d (S 6 d + 1) 4) (nI j) nd)))) 232 2 (nI (n % 12))) 232 3 (S 6 d + 1)).1 218 28 = nI (c + 2 ^ d) := by
      simp only [uA_1]
      rw [uI_1, if_pos ⟨rfl, rfl⟩, or_pw hc]
    have f4 : (uA (uA (uA (uA (uA (uA (uA (uI t' 218 28 (nI (c ||| 2 ^ d))) 234 (b + 6 + d) (nI j)) 234 (b + 12 + d) 0) 234 (b + 24 + d) (S 6 d + 1)) 232 0 (S 3 d)) 232 1 (nI (pc (gs (up2 (up2 (up2 S 4 d (nI j)) 5 d 0) 6 d (S 6 d + 1) 4) (nI j) nd)))) 232 2 (nI (n % 12))) 232 3 (S 6 d + 1)).1 218 29 = nI o := by
      simp only [uA_1]
      rw [uI_1, if_neg (by omega)]
      exact k4
    clear w1 w2 w3 w4 w5 w6 w7
    generalize (uI (uA (uA (uA t (a + 4) d (nI j)) (a + 5) d 0) (a + 6) d (S 6 d + 1)) a 9 (nI (c ||| 2 ^ d))) = T at *
    generalize (uA (uA (uA (uA (uA (uA (uA (uI t' 218 28 (nI (c ||| 2 ^ d))) 234 (b + 6 + d) (nI j)) 234 (b + 12 + d) 0) 234 (b + 24 + d) (S 6 d + 1)) 232 0 (S 3 d)) 232 1 (nI (pc (gs (up2 (up2 (up2 S 4 d (nI j)) 5 d 0) 6 d (S 6 d + 1) 4) (nI j) nd)))) 232 2 (nI (n % 12))) 232 3 (S 6 d + 1)) = T' at *
    have hsk : SK nh nd st (up2 (up2 (up2 S 4 d (nI j)) 5 d 0) 6 d (S 6 d + 1)) := ((hs.w4 (.inr ⟨j, hj, rfl⟩)).w5 ⟨0, hst.1, rfl⟩).w6 (.inl rfl)
    have hnx : NX S (up2 (up2 (up2 S 4 d (nI j)) 5 d 0) 6 d (S 6 d + 1)) := ((NX.rf.w (by decide)).w (by decide)).w (by decide)
    have hs3 : (up2 (up2 (up2 S 4 d (nI j)) 5 d 0) 6 d (S 6 d + 1)) 3 d = S 3 d := by
      rw [up2_o (by decide), up2_o (by decide), up2_o (by decide)]
    have y9 : (-9 : Int32) ≤ 9 := by decide
    have y0 : (0 : Int32) ≤ 99 := by decide
    have hlr := w8.2.2.2.2.1
    rcases hlr with ⟨l1, l2⟩ | ⟨l1, l2, _⟩
    · simp (disch := omega) only [tA_e, tA_l, tW0_e, tW0_l, nN_al, nN_la, nN_ad, nN_lm, nN_ml, nN_le, nN_lt, nN_eq, nN_lel, nN_lle, nN_ltl, nN_llt, nN_eql, nN_rm, nN_dv, ob_s, ob_2, ob_3, ite_true, ite_false, not_true_eq_false, not_false_eq_true, ite_self, eq_self, Nat.add_zero, l1, l2, z4, clamp_e y9, clamp_e y0, clp_m, w8.c3, hs3]
      refine ⟨_, c + 2 ^ d, o, m, _, _, trivial, rfl, rfl, w8.w3 hd, hsk.w3 clp_n, hnx.w (by decide), ⟨f1, f2, f3, f4⟩, by omega, by omega, rfl⟩
    · obtain ⟨r, t5, t5', q1, q2, q3, q4, q5⟩ := w8.law hF l1
      replace q1 : tX1_value (v + 11) (S 3 d) (nI (pc (gs (up2 (up2 (up2 S 4 d (nI j)) 5 d 0) 6 d (S 6 d + 1) 4) (nI j) nd))) (nI (n % 12)) (S 6 d + 1) T = some (r, t5) := q1
      have z5 : ¬ ((1 : Int32) = 0) := by decide
      simp (disch := omega) only [tA_e, tA_l, tW0_e, tW0_l, nN_al, nN_la, nN_ad, nN_lm, nN_ml, nN_le, nN_lt, nN_eq, nN_lel, nN_lle, nN_ltl, nN_llt, nN_eql, nN_rm, nN_dv, ob_s, ob_2, ob_3, ite_true, ite_false, not_true_eq_false, not_false_eq_true, ite_self, eq_self, Nat.add_zero, l1, l2, z5, Nat.le_refl, Nat.zero_le, q1, q2, clamp_e y9, clamp_e y0, clp_m, q3.c3, hs3]
      refine ⟨_, c + 2 ^ d, o, m, _, _, trivial, rfl, rfl, q3.w3 hd, hsk.w3 clp_n, hnx.w (by decide), ⟨?_, ?_, ?_, ?_⟩, by omega, by omega, rfl⟩
      · rw [uA_1, q4]; exact f1
      · rw [uA_1, q4]; exact f2
      · rw [uA_1, q5]; exact f3
      · rw [uA_1, q5]; exact f4
set_option maxHeartbeats 4000000 in
theorem PR.cmL (hn : n < 1000000) : ∀ (k i f f' c o m : Nat) (S : Nat → Nat → Int32) (t t' : tS), PR v nh nd st V a b n m S t0 t0' t t' → SK nh nd st S → CO a c o t t' → c < 2 ^ i → o < 2 ^ i → i + k = nd → k < f → k < f' → ∃ S1 c1 o1 m1 t1 t1', tX6_passDate_L68 f a v (nI i) t = some t1 ∧ tX10_passes_L95 f' (nI b) (nI i) t' = some t1' ∧ PR v nh nd st V a b n m1 S1 t0 t0' t1 t1' ∧ SK nh nd st S1 ∧ NX S S1 ∧ CO a c1 o1 t1 t1' ∧ c1 < 2 ^ nd ∧ o1 < 2 ^ nd ∧ m1 + pc o = m + pc o1 := by
  intro k
  induction k with
  | zero =>
    intro i f f' c o m S t t' h hs hco hc ho hi hf hf'
    have h6 := h.h6
    obtain ⟨f, rfl⟩ : ∃ g, f = g + 1 := ⟨f - 1, by omega⟩
    obtain ⟨f', rfl⟩ : ∃ g, f' = g + 1 := ⟨f' - 1, by omega⟩
    obtain rfl : i = nd := by omega
    rw [tX6_passDate_L68, tX10_passes_L95]
    simp (disch := omega) only [tA_e, tA_l, tW0_e, tW0_l, nN_al, nN_la, nN_ad, nN_lm, nN_ml, nN_le, nN_lt, nN_eq, nN_lel, nN_lle, nN_ltl, nN_llt, nN_eql, nN_rm, nN_dv, ob_s, ob_2, ob_3, ite_true, ite_false, not_true_eq_false, not_false_eq_true, ite_self, eq_self, Nat.add_zero, h.cd, h.days, Nat.le_refl]
    exact ⟨_, _, _, _, _, _, rfl, rfl, h, hs, NX.rf, hco, hc, ho, rfl⟩
  | succ k ih =>
    intro i f f' c o m S t t' h hs hco hc ho hi hf hf'
    have h6 := h.h6
    have h4 := h.h4
    have hb := h.b1
    obtain ⟨f, rfl⟩ : ∃ g, f = g + 1 := ⟨f - 1, by omega⟩
    obtain ⟨f', rfl⟩ : ∃ g, f' = g + 1 := ⟨f' - 1, by omega⟩
    have c1 : ¬ nd ≤ i := by omega
    have hd : i < nd := by omega
    have hp : 2 ^ (i + 1) = 2 ^ i + 2 ^ i := by rw [Nat.pow_succ]; omega
    obtain ⟨⟨og, g1, g2⟩, ⟨sg, g3, g4⟩, g5, g6⟩ := hs i hd
    have gm := NN.m1 (by omega) g5
    have due := h.isDue hn hd g2 g1 g4 g3
    have hisd := h.isDate hn hd g2 g1
    rw [tX6_passDate_L68, tX10_passes_L95]
    simp (disch := omega) only [tA_e, tA_l, tW0_e, tW0_l, nN_al, nN_la, nN_ad, nN_lm, nN_ml, nN_le, nN_lt, nN_eq, nN_lel, nN_lle, nN_ltl, nN_llt, nN_eql, nN_rm, nN_dv, ob_s, ob_2, ob_3, ite_true, ite_false, not_true_eq_false, not_false_eq_true, ite_self, eq_self, Nat.add_zero, h.cd, h.days, c1, due, hisd, h.m4, h.m3, g4, gm.2, bI_0]
    by_cases d1 : S 4 i = -1
    · by_cases d2 : sg = 0
      · have d3 : sg ≤ 0 := by omega
        simp only [tA_e, tA_l, tW0_e, tW0_l, nN_al, nN_la, nN_ad, nN_lm, nN_ml, nN_le, nN_lt, nN_eq, nN_lel, nN_lle, nN_ltl, nN_llt, nN_eql, nN_rm, nN_dv, ob_s, ob_2, ob_3, ite_true, ite_false, not_true_eq_false, not_false_eq_true, ite_self, eq_self, Nat.add_zero, decide_true, decide_false, decide_not, Bool.not_true, Bool.not_false, Bool.true_and, Bool.false_and, Bool.and_true, Bool.and_false, Bool.or_true, Bool.true_or, Bool.or_false, Bool.false_or, if_true, if_false, Bool.false_eq_true, z01_0, z01_1, eq_true d1, eq_true d2, eq_true d3]
        exact ih (i + 1) f f' c o m S t t' h hs hco (by omega) (by omega) (by omega) (by omega) (by omega)
      · have d3 : ¬ sg ≤ 0 := by omega
        cases hi2 : isd V n og i
        · simp only [tA_e, tA_l, tW0_e, tW0_l, nN_al, nN_la, nN_ad, nN_lm, nN_ml, nN_le, nN_lt, nN_eq, nN_lel, nN_lle, nN_ltl, nN_llt, nN_eql, nN_rm, nN_dv, ob_s, ob_2, ob_3, ite_true, ite_false, not_true_eq_false, not_false_eq_true, ite_self, eq_self, Nat.add_zero, decide_true, decide_false, decide_not, Bool.not_true, Bool.not_false, Bool.true_and, Bool.false_and, Bool.and_true, Bool.and_false, Bool.or_true, Bool.true_or, Bool.or_false, Bool.false_or, if_true, if_false, Bool.false_eq_true, z01_0, z01_1, eq_true d1, d2, d3]
          exact ih (i + 1) f f' c o m S t t' h hs hco (by omega) (by omega) (by omega) (by omega) (by omega)
        · obtain ⟨r, S1, c2, o2, m1, t1, t1', e1, e2, e3, e4, e5, e6, e7, e8, e9, e10⟩ := h.come hs hn hd hco hc ho
          simp only [tA_e, tA_l, tW0_e, tW0_l, nN_al, nN_la, nN_ad, nN_lm, nN_ml, nN_le, nN_lt, nN_eq, nN_lel, nN_lle, nN_ltl, nN_llt, nN_eql, nN_rm, nN_dv, ob_s, ob_2, ob_3, ite_true, ite_false, not_true_eq_false, not_false_eq_true, ite_self, eq_self, Nat.add_zero, decide_true, decide_false, decide_not, Bool.not_true, Bool.not_false, Bool.true_and, Bool.false_and, Bool.and_true, Bool.and_false, Bool.or_true, Bool.true_or, Bool.or_false, Bool.false_or, if_true, if_false, Bool.false_eq_true, z01_0, z01_1, eq_true d1, d2, d3, e1, e2, e3, Bool.true_eq_false]
          obtain ⟨S2, c3, o3, m3, t3, t3', a1, a2, a3, a4, a5, a6, a7, a8, a9⟩ := ih (i + 1) f f' c2 o2 m1 S1 t1 t1' e4 e5 e7 e8 e9 (by omega) (by omega) (by omega)
          exact ⟨S2, c3, o3, m3, t3, t3', a1, a2, a3, a4, e6.tr a5, a6, a7, a8, by omega⟩
    · simp only [tA_e, tA_l, tW0_e, tW0_l, nN_al, nN_la, nN_ad, nN_lm, nN_ml, nN_le, nN_lt, nN_eq, nN_lel, nN_lle, nN_ltl, nN_llt, nN_eql, nN_rm, nN_dv, ob_s, ob_2, ob_3, ite_true, ite_false, not_true_eq_false, not_false_eq_true, ite_self, eq_self, Nat.add_zero, decide_true, decide_false, decide_not, Bool.not_true, Bool.not_false, Bool.true_and, Bool.false_and, Bool.and_true, Bool.and_false, Bool.or_true, Bool.true_or, Bool.or_false, Bool.false_or, if_true, if_false, Bool.false_eq_true, z01_0, z01_1, d1]
      exact ih (i + 1) f f' c o m S t t' h hs hco (by omega) (by omega) (by omega) (by omega) (by omega)
theorem CS.wN {t : tS} {x y : Int32} {n1 : Nat} (h : CS nh nd a n m S t) (hx : x = nI (n1 % 12)) (hy : y = nI (n1 / 12)) : CS nh nd a n1 m S (uI (uI t a 6 x) a 7 y) := by
  obtain ⟨h1, h2, h3, h4⟩ := h
  refine ⟨?_, ?_, ?_, h4⟩
  · rw [uI_1, if_neg (by omega), uI_1, if_pos ⟨rfl, rfl⟩]; exact hx
  · rw [uI_1, if_pos ⟨rfl, rfl⟩]; exact hy
  · rw [uI_1, if_neg (by omega), uI_1, if_neg (by omega)]; exact h3
theorem CS.wN1 {t : tS} {x : Int32} {n1 : Nat} (h : CS nh nd a n m S t) (hx : x = nI (n1 % 12)) (hy : n1 / 12 = n / 12) : CS nh nd a n1 m S (uI t a 6 x) := by
  obtain ⟨h1, h2, h3, h4⟩ := h
  refine ⟨?_, ?_, ?_, h4⟩
  · rw [uI_1, if_pos ⟨rfl, rfl⟩]; exact hx
  · rw [uI_1, if_neg (by omega), hy]; exact h2
  · rw [uI_1, if_neg (by omega)]; exact h3
theorem CS.wN2 {t : tS} {x y : Int32} {n1 : Nat} {z : Int32} (h : CS nh nd a n m S t) (hx : x = nI (n1 % 12)) (hy : y = nI (n1 / 12)) : CS nh nd a n1 m S (uI (uI (uI t a 6 z) a 6 x) a 7 y) := by
  obtain ⟨h1, h2, h3, h4⟩ := h
  refine ⟨?_, ?_, ?_, h4⟩
  · rw [uI_1, if_neg (by omega), uI_1, if_pos ⟨rfl, rfl⟩]; exact hx
  · rw [uI_1, if_pos ⟨rfl, rfl⟩]; exact hy
  · rw [uI_1, if_neg (by omega), uI_1, if_neg (by omega), uI_1, if_neg (by omega)]; exact h3
theorem MS.wN {t : tS} {n1 : Nat} (h : MS nh nd b n m S t) (h4 : nh ≤ 4) (h6 : nd ≤ 6) : MS nh nd b n1 m S (uA t 234 b (nI n1)) := by
  obtain ⟨g1, g2, g3, g4, g5, g6, g7, g8⟩ := h
  refine ⟨?_, ?_, ?_, ?_, ?_, ?_, ?_, ?_⟩
  · rw [uA_2, if_pos ⟨rfl, rfl⟩]
  · rw [uA_2, if_neg (by omega)]; exact g2
  all_goals intro e he; rw [uA_2, if_neg (by omega)]
  · exact g3 e he
  · exact g4 e he
  · exact g5 e he
  · exact g6 e he
  · exact g7 e he
  · exact g8 e he
set_option maxHeartbeats 4000000 in
/-- a date goes by -/
theorem PR.pass (h : PR v nh nd st V a b n m S t0 t0' t t') (hs : SK nh nd st S) (hn : n + 1 < 1000000) : ∃ S1 c1 o1 t1 t1', tX6_passDate a v t = some t1 ∧ tX10_passes (nI b) t' = some t1' ∧ PR v nh nd st V a b (n + 1) (m + pc o1) S1 t0 t0' t1 t1' ∧ SK nh nd st S1 ∧ NX S S1 ∧ CO a c1 o1 t1 t1' ∧ c1 < 64 ∧ o1 < 64 ∧ c1 < 2 ^ nd ∧ o1 < 2 ^ nd := by
  have h6 := h.h6
  have h4 := h.h4
  have hb := h.b1
  have q1 : n % 12 < 12 := Nat.mod_lt _ (by decide)
  have q3 : n / 12 ≤ n := Nat.div_le_self _ _
  have p64 : 2 ^ nd ≤ 64 := by rw [show 64 = 2 ^ 6 from rfl]; exact Nat.pow_le_pow_right (by decide) h6
  have key : ∀ (T : tS), CF a v t T → CS nh nd a (n + 1) m S T → ∃ S1 c1 o1 t1 t1', (Option.bind (tX6_passDate_L36 4000 a v 0 T) fun tt25 => (some (uI tt25 a 9 0)).bind fun tt28 => (some (uI tt28 a 10 0)).bind fun tt32 => Option.bind (tX6_passDate_L68 4000 a v 0 tt32) fun tt51 => some tt51) = some t1 ∧ tX10_passes (nI b) t' = some t1' ∧ PR v nh nd st V a b (n + 1) (m + pc o1) S1 t0 t0' t1 t1' ∧ SK nh nd st S1 ∧ NX S S1 ∧ CO a c1 o1 t1 t1' ∧ c1 < 64 ∧ o1 < 64 ∧ c1 < 2 ^ nd ∧ o1 < 2 ^ nd := by
    intro T hf hcs
    have w1 : PR v nh nd st V a b (n + 1) m S t0 t0' T (uI (uI (uA t' 234 b (nI (n + 1))) 218 28 0) 218 29 0) := h.go hf (((MF.wA (Nat.le_refl _) (by omega)).tr (MF.wI (.inl rfl))).tr (MF.wI (.inr rfl))) hcs (h.2.2.2.2.2.2.1.wN h4 h6)
    obtain ⟨S1, t1, t1', e1, e2, e3, e4, e5, e6, e7⟩ := PR.stL nd 0 4000 4000 S _ _ w1 hs (by omega) (by omega) (by omega)
    have w2 := (e3.cI (k := 9) (x := 0) (.inl rfl)).cI (k := 10) (x := 0) (.inr rfl)
    have co : CO a 0 0 (uI (uI t1 a 9 0) a 10 0) t1' := by
      refine ⟨?_, ?_, ?_, ?_⟩
      · rw [uI_1, if_neg (by omega), uI_1, if_pos ⟨rfl, rfl⟩]
        rfl
      · rw [uI_1, if_pos ⟨rfl, rfl⟩]
        rfl
      · rw [e7, uI_1, if_neg (by omega), uI_1, if_pos ⟨rfl, rfl⟩]
        rfl
      · rw [e7, uI_1, if_pos ⟨rfl, rfl⟩]
        rfl
    obtain ⟨S2, c3, o3, m3, t3, t3', a1, a2, a3, a4, a5, a6, a7, a8, a9⟩ := PR.cmL (by omega) nd 0 4000 4000 0 0 m S1 _ _ w2 e4 co (by omega) (by omega) (by omega) (by omega) (by omega)
    rw [pc_0] at a9
    obtain rfl : m3 = m + pc o3 := by omega
    refine ⟨S2, c3, o3, t3, t3', ?_, ?_, a3, a4, e5.tr a5, a6, by omega, by omega, a7, a8⟩
    · rw [show (0 : Int32) = nI 0 from rfl] at a1 ⊢
      rw [e1, ob_s, ob_s, ob_s, a1, ob_s]
    · unfold tX10_passes
      rw [show (0 : Int32) = nI 0 from rfl] at e2 ⊢
      rw [nN_ad, Nat.add_zero, tA_e (by omega) (by omega), ob_s, h.mn]
      simp (disch := omega) only [tA_e, tA_l, tW0_e, tW0_l, nN_al, nN_la, nN_ad, nN_lm, nN_ml, nN_le, nN_lt, nN_eq, nN_lel, nN_lle, nN_ltl, nN_llt, nN_eql, nN_rm, nN_dv, ob_s, ob_2, ob_3, ite_true, ite_false, not_true_eq_false, not_false_eq_true, ite_self, eq_self, Nat.add_zero]
      rw [e2, ob_s, a2, ob_s]
  unfold tX6_passDate
  rw [ob_s, h.cn]
  have w0 : ((uI t a 6 (nI (n % 12) + 1)).1 a 6) = nI (n % 12 + 1) := by
    rw [uI_1, if_pos ⟨rfl, rfl⟩, nN_al]
  have w7 : ((uI (uI t a 6 (nI (n % 12) + 1)) a 6 0).1 a 7) = nI (n / 12) := by
    rw [uI_1, if_neg (by omega), uI_1, if_neg (by omega)]
    exact h.cy
  by_cases d1 : n % 12 + 1 < 12
  · rw [if_pos (by rw [w0, nN_ltl (by omega) (by decide)]; exact d1), ob_s]
    exact key _ CF.wI (h.2.2.2.2.2.1.wN1 (by rw [nN_al]; congr 1; show n % 12 + 1 = _; omega) (by omega))
  · rw [if_neg (by rw [w0, nN_ltl (by omega) (by decide)]; exact d1), ob_s, ob_s, ob_s, w7]
    exact key _ ((CF.wI.tr CF.wI).tr CF.wI) (h.2.2.2.2.2.1.wN2 (by show nI 0 = _; congr 1; omega) (by rw [nN_al]; congr 1; show n / 12 + 1 = _; omega))
end
