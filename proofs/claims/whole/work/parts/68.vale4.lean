/-! ===== PURE: a vale is read: a day ===== -/
section
variable {v nh nd st a b n m : Nat} {V : Nat → Nat → Nat} {S : Nat → Nat → Int32} {t0 t0' t t' : tS}
variable {c so pl bh : Nat → Nat} {L M k w : Nat}
theorem uB_1 {a i : Nat} {x : Int64} : (uB t a i x).1 = t.1 := rfl
theorem uB_a {a i : Nat} {x : Int64} : (uB t a i x).2.1 = t.2.1 := rfl
theorem uB_3 {a i : Nat} {x : Int64} : (uB t a i x).2.2.2 = t.2.2.2 := rfl
/-- what a new name leaves -/
theorem nmS_f {N k1 i cn : Nat} {x : Int64} {y : Int32} {T' : tS} (h : RO1 (nmS t' N x y k1 i cn) T') : (∀ j, j ≠ i → T'.2.1 224 j = t'.2.1 224 j) ∧ T'.2.1 224 i = nI cn ∧ (∀ b j, b ≠ 224 → b ≠ 230 → T'.2.1 b j = t'.2.1 b j) ∧ (∀ j, j ≠ 7 → j ≠ 8 → j ≠ 19 → T'.1 218 j = t'.1 218 j) ∧ T'.1 218 19 = nI (N + 1) ∧ (∀ j, j ≠ N → T'.2.1 230 j = t'.2.1 230 j) ∧ T'.2.1 230 N = y ∧ (∀ j, j ≠ N → T'.2.2.1 228 j = t'.2.2.1 228 j) ∧ T'.2.2.1 228 N = x ∧ ∀ b j, b ≠ 228 → T'.2.2.1 b j = t'.2.2.1 b j := by
  unfold nmS at h
  refine ⟨fun j hj => ?_, ?_, fun b j h1 h2 => ?_, fun j h1 h2 h3 => ?_, ?_, fun j h1 => ?_, ?_, fun j h1 => ?_, ?_, fun b j h1 => ?_⟩
  · rw [h.2]; simp (disch := omega) only [uA_s, uA_o, uI_s, uI_o, uB_s, uB_o, uI_2, uA_1, uA_3, uB_1, uB_a, uB_3]
  · rw [h.2]; simp (disch := omega) only [uA_s, uA_o, uI_s, uI_o, uB_s, uB_o, uI_2, uA_1, uA_3, uB_1, uB_a, uB_3]
  · rw [h.2]; simp (disch := omega) only [uA_s, uA_o, uI_s, uI_o, uB_s, uB_o, uI_2, uA_1, uA_3, uB_1, uB_a, uB_3]
  · rw [h.1 _ _ (by omega)]; simp (disch := omega) only [uA_s, uA_o, uI_s, uI_o, uB_s, uB_o, uI_2, uA_1, uA_3, uB_1, uB_a, uB_3]
  · rw [h.1 _ _ (by omega)]; simp (disch := omega) only [uA_s, uA_o, uI_s, uI_o, uB_s, uB_o, uI_2, uA_1, uA_3, uB_1, uB_a, uB_3]
  · rw [h.2]; simp (disch := omega) only [uA_s, uA_o, uI_s, uI_o, uB_s, uB_o, uI_2, uA_1, uA_3, uB_1, uB_a, uB_3]
  · rw [h.2]; simp (disch := omega) only [uA_s, uA_o, uI_s, uI_o, uB_s, uB_o, uI_2, uA_1, uA_3, uB_1, uB_a, uB_3]
  · rw [h.2]; simp (disch := omega) only [uA_s, uA_o, uI_s, uI_o, uB_s, uB_o, uI_2, uA_1, uA_3, uB_1, uB_a, uB_3]
  · rw [h.2]; simp (disch := omega) only [uA_s, uA_o, uI_s, uI_o, uB_s, uB_o, uI_2, uA_1, uA_3, uB_1, uB_a, uB_3]
  · rw [h.2]; simp (disch := omega) only [uA_s, uA_o, uI_s, uI_o, uB_s, uB_o, uI_2, uA_1, uA_3, uB_1, uB_a, uB_3]
theorem hn_ag {x : Int64} {t1 : tS} (e1 : t1.1 v 11 = t.1 v 11) (e2 : ∀ i, t1.2.2.1 (v + 1) i = t.2.2.1 (v + 1) i) (h : t.1 v 11 = nI nh) (h4 : nh ≤ 4) : tX8_houseNamed v x t1 = tX8_houseNamed v x t := by
  have key : ∀ (r j f : Nat), j + r = nh → r < f → tX8_houseNamed_L2 f v x (nI j) t1 = tX8_houseNamed_L2 f v x (nI j) t := by
    intro r
    induction r with
    | zero =>
      intro j f hj hf
      obtain ⟨f, rfl⟩ : ∃ g, f = g + 1 := ⟨f - 1, by omega⟩
      rw [tX8_houseNamed_L2, tX8_houseNamed_L2, e1, h, if_pos ((nN_le (by omega) (by omega)).2 (by omega)), if_pos ((nN_le (by omega) (by omega)).2 (by omega))]
    | succ r ih =>
      intro j f hj hf
      obtain ⟨f, rfl⟩ : ∃ g, f = g + 1 := ⟨f - 1, by omega⟩
      rw [tX8_houseNamed_L2, tX8_houseNamed_L2, e1, h, if_neg (by rw [nN_le (by omega) (by omega)]; omega), if_neg (by rw [nN_le (by omega) (by omega)]; omega), tB_e (by omega) (by omega), tB_e (by omega) (by omega), e2, nN_al, ob_s, ob_s, ih (j + 1) f (by omega) (by omega)]
  unfold tX8_houseNamed
  have := key nh 0 4000 (by omega) (by omega)
  have this : tX8_houseNamed_L2 4000 v x 0 t1 = tX8_houseNamed_L2 4000 v x 0 t := this
  rw [this]
theorem PC.pHouseK {B : Nat} {fl r x : Int32} (h : PC c L M so pl bh k t t') (hT : TK c L M so pl bh) (h4 : nh ≤ 4) (hB : B < 64) (k1 : tX8_houseNamed v (t.2.2.2.1 1 6) t = some r) (k2 : nmb c so pl bh k = true → tX10_nameAt fl t' = some x) (k3 : nmb c so pl bh k = true → (∃ j, j < nh ∧ r = nI j ∧ x - 0 = nI j) ∨ (r = -1 ∧ ¬ decide ((0 : Int32) ≤ x - 0 ∧ x - 0 ≤ 5) = true)) : (∃ j t1 t1', j < nh ∧ B.testBit j = false ∧ tX4_passHouse v (nI B) t = some (1, t1) ∧ t1.1 1 8 = nI j ∧ tX10_takeTold fl 0 (nI B) t' = some (nI j, t1') ∧ PC c L M so pl bh (k + 1) t1 t1' ∧ CO1 t t1 ∧ RO1 t' t1') ∨ (∃ F t1 t1', tX4_passHouse v (nI B) t = some (0, t1) ∧ tX10_takeTold fl 0 (nI B) t' = some (0, t1') ∧ NOx F t t' t1 t1') := by
  unfold tX4_passHouse
  rw [k1]
  simp only [ob_s]
  rcases h.pTold hT hB k2 (fun z => by
    rcases k3 z with ⟨j, j1, j2, j3⟩ | j
    · exact .inl ⟨j, by omega, j2, j3⟩
    · exact .inr j) with ⟨j, t1, t1', e1, e2, e3, e4, e5, e6, e7, e8, e9⟩ | ⟨F, t1, t1', e1, e2, e3⟩
  · have hj : j < nh := by
      have hb : nmb c so pl bh k = true := by
        cases z : nmb c so pl bh k
        · exfalso
          have q := e4
          unfold tX4_passTold at q
          rw [h.cName hT, z] at q
          simp only [ob_s] at q
          rw [if_neg (show ¬ ¬ bI false = 0 by decide)] at q
          unfold tX7_refuse at q
          simp only [ob_s, ob_2, z01_0] at q
          cases q
        · rfl
      rcases k3 hb with ⟨j', q1, q2, q3⟩ | ⟨q1, _⟩
      · rw [q2] at e1
        have := (nN_eq (by omega) (by omega)).1 e1
        omega
      · rw [q1] at e1
        exact absurd e1.symm (nN_ne1 (by omega))
    rw [e4, e6]
    exact .inl ⟨j, t1, t1', hj, e3, rfl, e5, rfl, e7, e8, e9⟩
  · rw [e1, e2]
    exact .inr ⟨F, t1, t1', rfl, rfl, e3⟩
/-- a kind of day -/
theorem PC.kind (h : PC c L M so pl bh k t t') (hT : TK c L M so pl bh) : (∃ j t1 t1', j < 4 ∧ tX4_passKind t = some (1, t1) ∧ t1.1 1 8 = nI j ∧ tX10_takeOne 14 4 t' = some (nI j, t1') ∧ PC c L M so pl bh (k + 1) t1 t1' ∧ CO1 t t1 ∧ RO1 t' t1') ∨ (∃ F t1 t1', tX4_passKind t = some (0, t1) ∧ tX10_takeOne 14 4 t' = some (0, t1') ∧ NOx F t t' t1 t1') := by
  have m8 := h.2.2.2.2.2
  have z0 : ¬ ¬ (nI 0 : Int32) = 0 := by decide
  have l0 : (nI 0 : Int32) ≤ 0 := by decide
  obtain ⟨y, y1, y2⟩ := h.wh hT (f := 14) (m := 4) (by decide)
  have y1' : tX10_wordHere 14 4 t' = some y := y1
  have w1 : tX7_isWord 1000014 t = some (bI (isw c so pl bh k 14)) := h.cw hT (i := 14) (by decide)
  have w2 : tX7_isWord 1000015 t = some (bI (isw c so pl bh k 15)) := h.cw hT (i := 15) (by decide)
  have w3 : tX7_isWord 1000016 t = some (bI (isw c so pl bh k 16)) := h.cw hT (i := 16) (by decide)
  have w4 : tX7_isWord 1000017 t = some (bI (isw c so pl bh k 17)) := h.cw hT (i := 17) (by decide)
  unfold tX4_passKind tX10_takeOne
  rw [w1, w2, w3, w4, m8, if_pos l0, y1']
  simp only [ob_s]
  rw [if_neg z0]
  rcases y2 with ⟨rfl, y2⟩ | ⟨j, j1, rfl, j3⟩
  · have o0 : isw c so pl bh k 14 = false := y2 0 (by omega)
    have o1 : isw c so pl bh k 15 = false := y2 1 (by omega)
    have o2 : isw c so pl bh k 16 = false := y2 2 (by omega)
    have o3 : isw c so pl bh k 17 = false := y2 3 (by omega)
    obtain ⟨F, f1, f1', g1, g2, g3⟩ := h.no hT (kd := 1) (by omega) (by omega)
    have g1' : tX7_refuse 1 t = some (0, f1) := g1
    have g2' : tX10_wrong 1 t' = some f1' := g2
    have nl := g3.ft.nl
    have bf : bI false = 0 := by decide
    rw [o0, o1, o2, o3, if_pos bf, if_pos bf, if_pos bf, if_pos bf, g1', g2', if_neg (show ¬ (0 : Int32) ≤ -1 by decide)]
    simp only [ob_s, ob_2, z01_0]
    rw [if_neg nl]
    simp only [ob_s, Int32.add_zero]
    rw [uI_id, if_neg nl]
    exact .inr ⟨F, f1, f1', rfl, rfl, g3⟩
  · have h8 : PC c L M so pl bh k (uI t 1 8 (nI j)) t' := h.ag (fun j hj => uI_o (by omega)) (fun _ => rfl) rfl rfl rfl (fun _ => rfl) (fun _ => rfl) (fun _ => rfl) (fun _ => rfl)
    obtain ⟨t1, e1, e2, e3⟩ := h8.step hT (isw_m hT h.1 j3)
    have w8 : t1.1 1 8 = nI j := by rw [e3.1 _ _ (by omega), uI_s]
    have y0 : (0 : Int32) ≤ nI j := (nN_le (a := 0) (b := j) (by decide) (by omega)).2 (Nat.zero_le _)
    have u8 : (uI t' 218 7 (nI (k + 1))).1 218 8 ≤ 0 := by rw [uI_o (by omega), m8]; decide
    have o : ∀ i, i < 4 → i ≠ j → isw c so pl bh k (14 + i) = false := fun i hi hij => isw_o (by omega) (by omega) j3 (by omega)
    have bf : bI false = 0 := by decide
    have bt : ¬ bI true = 0 := by decide
    rw [if_pos y0]
    simp only [ob_s]
    rw [m8, if_pos l0]
    simp only [ob_s]
    rw [h.at1, if_pos u8]
    simp only [ob_s]
    obtain rfl | rfl | rfl | rfl : j = 0 ∨ j = 1 ∨ j = 2 ∨ j = 3 := by omega
    · have e1' : tX7_step (uI t 1 8 0) = some t1 := e1
      have j3' : isw c so pl bh k 14 = true := j3
      rw [j3', if_neg bt, e1']
      exact .inl ⟨0, t1, _, j1, rfl, w8, rfl, e2, CO1.wI.tr e3.co, RO1.wI (.inl rfl)⟩
    · have e1' : tX7_step (uI t 1 8 1) = some t1 := e1
      have j3' : isw c so pl bh k 15 = true := j3
      have o0 : isw c so pl bh k 14 = false := o 0 (by omega) (by omega)
      rw [o0, j3', if_pos bf, if_neg bt, e1']
      exact .inl ⟨1, t1, _, j1, rfl, w8, rfl, e2, CO1.wI.tr e3.co, RO1.wI (.inl rfl)⟩
    · have e1' : tX7_step (uI t 1 8 2) = some t1 := e1
      have j3' : isw c so pl bh k 16 = true := j3
      have o0 : isw c so pl bh k 14 = false := o 0 (by omega) (by omega)
      have o1 : isw c so pl bh k 15 = false := o 1 (by omega) (by omega)
      rw [o0, o1, j3', if_pos bf, if_pos bf, if_neg bt, e1']
      exact .inl ⟨2, t1, _, j1, rfl, w8, rfl, e2, CO1.wI.tr e3.co, RO1.wI (.inl rfl)⟩
    · have e1' : tX7_step (uI t 1 8 3) = some t1 := e1
      have j3' : isw c so pl bh k 17 = true := j3
      have o0 : isw c so pl bh k 14 = false := o 0 (by omega) (by omega)
      have o1 : isw c so pl bh k 15 = false := o 1 (by omega) (by omega)
      have o2 : isw c so pl bh k 16 = false := o 2 (by omega) (by omega)
      rw [o0, o1, o2, j3', if_pos bf, if_pos bf, if_pos bf, if_neg bt, e1']
      exact .inl ⟨3, t1, _, j1, rfl, w8, rfl, e2, CO1.wI.tr e3.co, RO1.wI (.inl rfl)⟩
theorem addD_e {n j : Nat} {x : Int64} {y6 y7 y8 : Int32} (h : t.1 w 12 = nI n) (hn : n < 6) (hj : j < 4) : tX8_addDay w x (nI j) y6 y7 y8 t = some (uI (uA (uA (uA (uA (uA (uB t (w + 4) n x) (w + 5) n (nI j)) (w + 6) n y6) (w + 7) n y7) (w + 8) n y8) (w + 10) n (nI (if j = 1 then 2 else 1))) w 12 (nI (n + 1))) := by
  have c1 : ¬ 6 ≤ n := by omega
  have js : (if ¬ nI j = (1 : Int32) then some (1 : Int32) else some (2 : Int32)) = some (nI (if j = 1 then 2 else 1)) := by
    have : ∀ j < 4, (if ¬ nI j = (1 : Int32) then some (1 : Int32) else some (2 : Int32)) = some (nI (if j = 1 then 2 else 1)) := by decide
    exact this j hj
  unfold tX8_addDay
  rw [js]
  simp (disch := omega) only [tA_e, tA_l, tW0_e, tW0_l, nN_al, nN_la, nN_ad, nN_lm, nN_ml, nN_le, nN_lt, nN_eq, nN_lel, nN_lle, nN_ltl, nN_llt, nN_eql, nN_rm, nN_dv, ob_s, ob_2, ob_3, ite_true, ite_false, not_true_eq_false, not_false_eq_true, ite_self, eq_self, Nat.add_zero, h, c1, uA_1, uB_1, tWB_e]
/-- after a day's name: its kind and so on, to both ends -/
theorem dayF (hT : TK c L M so pl bh) (hw : w = 182 ∨ w = 196) (hb : VB w nh nd st V t t') {sb fb : Nat} {ns : Nat → List Nat} {kd : Nat → Nat} (hn : NM w nh nd 228 230 19 ns kd t t') (hl : VL w k sb fb t t') {x : List Nat} {k1 j5 j6 j7 j8 k2 : Nat} {T T' : tS} (hlt : nd < 6) (hx : IW x) (hnew : ∀ i, i < nh + nd → ¬ ns i = x) (cc : CO1 t T) (rr : RO1 (nmS t' (nh + nd) (nL (enc 37 x 0)) (nI (20 + nd)) k2 51 (nd + 1)) T') (hp : PC c L M so pl bh k1 T T') (hk : k ≤ k1) (h5 : j5 < 4) (h6 : j6 < nh) (h7 : j7 < 12) (h8 : j8 ≤ 40) : VOUT c L M so pl bh w k ((tX8_addDay w (nL (enc 32 x 0)) (nI j5) (nI j6) (nI j7) (nI j8) T).bind fun tt61 => am_b2 (tX7_passSign 59 tt61) fun x63 tt65 => (am_z01 x63).bind fun b67 => some (b67, tt65)) (tX10_takeSign 59 (uA (uA (uA (uA T' 224 (62 + 5 * nd) (nI j5)) 224 (62 + 5 * nd + 1) (nI j6)) 224 (62 + 5 * nd + 2) (nI j7)) 224 (62 + 5 * nd + 3) (nI j8))) t t' := by
  have h4 := hb.1.1
  have c2 := hb.2.1.2.1
  have x12 : T.1 w 12 = nI nd := (cc.1 _ _ (by omega)).trans c2
  rw [addD_e x12 hlt h5]
  simp only [ob_s]
  obtain ⟨r1, r2, r3, r4, r5, r6, r7, r8, r9, r10⟩ := nmS_f rr
  obtain ⟨TF, hTF⟩ : ∃ X, X = uI (uA (uA (uA (uA (uA (uB T (w + 4) nd (nL (enc 32 x 0))) (w + 5) nd (nI j5)) (w + 6) nd (nI j6)) (w + 7) nd (nI j7)) (w + 8) nd (nI j8)) (w + 10) nd (nI (if j5 = 1 then 2 else 1))) w 12 (nI (nd + 1)) := ⟨_, rfl⟩
  obtain ⟨TM, hTM⟩ : ∃ X, X = uA (uA (uA (uA T' 224 (62 + 5 * nd) (nI j5)) 224 (62 + 5 * nd + 1) (nI j6)) 224 (62 + 5 * nd + 2) (nI j7)) 224 (62 + 5 * nd + 3) (nI j8) := ⟨_, rfl⟩
  rw [← hTF, ← hTM]
  have c11 := cc.2.1
  have pc : PC c L M so pl bh k1 TF TM := by
    refine hp.ag (fun j _ => ?_) (fun i => ?_) ?_ ?_ ?_ (fun i => ?_) (fun i => ?_) (fun i => ?_) (fun i => ?_)
    · rw [hTF]; simp (disch := omega) only [uA_s, uA_o, uI_s, uI_o, uB_s, uB_o, uI_2, uA_1, uA_3, uB_1, uB_a, uB_3]
    · rw [hTF]; simp (disch := omega) only [uA_s, uA_o, uI_s, uI_o, uB_s, uB_o, uI_2, uA_1, uA_3, uB_1, uB_a, uB_3]
    · rw [hTF]; simp (disch := omega) only [uA_s, uA_o, uI_s, uI_o, uB_s, uB_o, uI_2, uA_1, uA_3, uB_1, uB_a, uB_3]
    all_goals rw [hTM]; simp (disch := omega) only [uA_s, uA_o, uI_s, uI_o, uB_s, uB_o, uI_2, uA_1, uA_3, uB_1, uB_a, uB_3]
  obtain ⟨V1, hV⟩ := hb.day (t1 := TF) (t1' := TM) (x5 := j5) (x6 := j6) (x7 := j7) (x8 := j8) hlt h5 h6 h7 h8 (by rw [hTF]; simp (disch := omega) only [uA_s, uA_o, uI_s, uI_o, uB_s, uB_o, uI_2, uA_1, uA_3, uB_1, uB_a, uB_3]; exact cc.1 _ _ (by omega)) (by rw [hTF]; simp (disch := omega) only [uA_s, uA_o, uI_s, uI_o, uB_s, uB_o, uI_2, uA_1, uA_3, uB_1, uB_a, uB_3]) (by rw [hTF]; simp (disch := omega) only [uA_s, uA_o, uI_s, uI_o, uB_s, uB_o, uI_2, uA_1, uA_3, uB_1, uB_a, uB_3]; exact cc.1 _ _ (by omega)) (fun b i g1 g2 g3 => by rw [hTF]; simp (disch := omega) only [uA_s, uA_o, uI_s, uI_o, uB_s, uB_o, uI_2, uA_1, uA_3, uB_1, uB_a, uB_3, c11]) (by rw [hTF]; simp (disch := omega) only [uA_s, uA_o, uI_s, uI_o, uB_s, uB_o, uI_2, uA_1, uA_3, uB_1, uB_a, uB_3]) (by rw [hTF]; simp (disch := omega) only [uA_s, uA_o, uI_s, uI_o, uB_s, uB_o, uI_2, uA_1, uA_3, uB_1, uB_a, uB_3]) (by rw [hTF]; simp (disch := omega) only [uA_s, uA_o, uI_s, uI_o, uB_s, uB_o, uI_2, uA_1, uA_3, uB_1, uB_a, uB_3]) (by rw [hTF]; simp (disch := omega) only [uA_s, uA_o, uI_s, uI_o, uB_s, uB_o, uI_2, uA_1, uA_3, uB_1, uB_a, uB_3]) (by rw [hTF]; simp (disch := omega) only [uA_s, uA_o, uI_s, uI_o, uB_s, uB_o, uI_2, uA_1, uA_3, uB_1, uB_a, uB_3]) (fun i g1 g2 => by rw [hTM]; simp (disch := omega) only [uA_s, uA_o, uI_s, uI_o, uB_s, uB_o, uI_2, uA_1, uA_3, uB_1, uB_a, uB_3]; exact r1 i g1) (by rw [hTM]; simp (disch := omega) only [uA_s, uA_o, uI_s, uI_o, uB_s, uB_o, uI_2, uA_1, uA_3, uB_1, uB_a, uB_3]; exact r2) (by rw [hTM]; simp (disch := omega) only [uA_s, uA_o, uI_s, uI_o, uB_s, uB_o, uI_2, uA_1, uA_3, uB_1, uB_a, uB_3]) (by rw [hTM]; simp (disch := omega) only [uA_s, uA_o, uI_s, uI_o, uB_s, uB_o, uI_2, uA_1, uA_3, uB_1, uB_a, uB_3]) (by rw [hTM]; simp (disch := omega) only [uA_s, uA_o, uI_s, uI_o, uB_s, uB_o, uI_2, uA_1, uA_3, uB_1, uB_a, uB_3]) (by rw [hTM]; simp (disch := omega) only [uA_s, uA_o, uI_s, uI_o, uB_s, uB_o, uI_2, uA_1, uA_3, uB_1, uB_a, uB_3])
  obtain ⟨ns1, kd1, hN⟩ := hn.day (x := x) (t1 := TF) (t1' := TM) hx hnew h4 (fun i hi => by rw [hTF]; simp (disch := omega) only [uA_s, uA_o, uI_s, uI_o, uB_s, uB_o, uI_2, uA_1, uA_3, uB_1, uB_a, uB_3]; rw [cc.2.2.1]) (by rw [hTF]; simp (disch := omega) only [uA_s, uA_o, uI_s, uI_o, uB_s, uB_o, uI_2, uA_1, uA_3, uB_1, uB_a, uB_3]) (fun i => by rw [hTF]; simp (disch := omega) only [uA_s, uA_o, uI_s, uI_o, uB_s, uB_o, uI_2, uA_1, uA_3, uB_1, uB_a, uB_3]; rw [cc.2.2.1]) (by rw [hTM]; simp (disch := omega) only [uA_s, uA_o, uI_s, uI_o, uB_s, uB_o, uI_2, uA_1, uA_3, uB_1, uB_a, uB_3]; exact r5) (fun i hi => by rw [hTM]; simp (disch := omega) only [uA_s, uA_o, uI_s, uI_o, uB_s, uB_o, uI_2, uA_1, uA_3, uB_1, uB_a, uB_3]; exact r8 i hi) (by rw [hTM]; simp (disch := omega) only [uA_s, uA_o, uI_s, uI_o, uB_s, uB_o, uI_2, uA_1, uA_3, uB_1, uB_a, uB_3]; exact r9) (fun i hi => by rw [hTM]; simp (disch := omega) only [uA_s, uA_o, uI_s, uI_o, uB_s, uB_o, uI_2, uA_1, uA_3, uB_1, uB_a, uB_3]; exact r6 i hi) (by rw [hTM]; simp (disch := omega) only [uA_s, uA_o, uI_s, uI_o, uB_s, uB_o, uI_2, uA_1, uA_3, uB_1, uB_a, uB_3]; exact r7)
  have hl1 : VL w k1 sb fb TF TM := by
    refine hl.ag hk ?_ ?_ ?_ (fun i => ?_) ?_ ?_ ?_ (fun i => ?_) (fun i => ?_)
    · rw [hTF]; simp (disch := omega) only [uA_s, uA_o, uI_s, uI_o, uB_s, uB_o, uI_2, uA_1, uA_3, uB_1, uB_a, uB_3]; exact cc.1 _ _ (by omega)
    · rw [hTF]; simp (disch := omega) only [uA_s, uA_o, uI_s, uI_o, uB_s, uB_o, uI_2, uA_1, uA_3, uB_1, uB_a, uB_3]; exact cc.1 _ _ (by omega)
    · rw [hTF]; simp (disch := omega) only [uA_s, uA_o, uI_s, uI_o, uB_s, uB_o, uI_2, uA_1, uA_3, uB_1, uB_a, uB_3]; exact cc.1 _ _ (by omega)
    · rw [hTF]; simp (disch := omega) only [uA_s, uA_o, uI_s, uI_o, uB_s, uB_o, uI_2, uA_1, uA_3, uB_1, uB_a, uB_3, c11]
    · rw [hTM]; simp (disch := omega) only [uA_s, uA_o, uI_s, uI_o, uB_s, uB_o, uI_2, uA_1, uA_3, uB_1, uB_a, uB_3]; exact r4 _ (by omega) (by omega) (by omega)
    · rw [hTM]; simp (disch := omega) only [uA_s, uA_o, uI_s, uI_o, uB_s, uB_o, uI_2, uA_1, uA_3, uB_1, uB_a, uB_3]; exact r4 _ (by omega) (by omega) (by omega)
    · rw [hTM]; simp (disch := omega) only [uA_s, uA_o, uI_s, uI_o, uB_s, uB_o, uI_2, uA_1, uA_3, uB_1, uB_a, uB_3]; exact r1 _ (by omega)
    · rw [hTM]; simp (disch := omega) only [uA_s, uA_o, uI_s, uI_o, uB_s, uB_o, uI_2, uA_1, uA_3, uB_1, uB_a, uB_3]; exact r3 _ _ (by omega) (by omega)
    · rw [hTM]; simp (disch := omega) only [uA_s, uA_o, uI_s, uI_o, uB_s, uB_o, uI_2, uA_1, uA_3, uB_1, uB_a, uB_3]; exact r3 _ _ (by omega) (by omega)
  refine vend hT hw pc hk hV hN hl1 (cc.vc.tr ?_) (((VM.nm (by omega)).tr rr.vm).tr ?_)
  · rw [hTF]
    exact (((((VC.wB (.inr rfl)).tr (VC.wA (by omega))).tr (VC.wA (by omega))).tr (VC.wA (by omega))).tr (VC.wA (by omega))).tr ((VC.wA (by omega)).tr VC.wI)
  · rw [hTM]
    exact (((VM.wA (.inl ⟨rfl, by omega⟩)).tr (VM.wA (.inl ⟨rfl, by omega⟩))).tr (VM.wA (.inl ⟨rfl, by omega⟩))).tr (VM.wA (.inl ⟨rfl, by omega⟩))
end
